/-! INTS: the memory by whole numbers. em V J z is the memory whose int at place k of address a is iv (V a k). -/
abbrev Vm : Type := Nat → Int → Int
def iv (x : Int) : Int32 := Int32.ofInt x
def jv (x : Int) : Int64 := Int64.ofInt x
def em (V J : Vm) (z : Zz) : Mem := (fun a k => iv (V a k), fun a k => jv (J a k), z)
def ur (A : Int → Int) (k x : Int) : Int → Int := fun j => if j = k then x else A j
def sv (V : Vm) (a : Nat) (k x : Int) : Vm := fun b => if b = a then ur (V a) k x else V b
theorem ur_s {A : Int → Int} {k x : Int} : ur A k x k = x := if_pos rfl
theorem ur_e {A : Int → Int} {k x j : Int} (h : j = k) : ur A k x j = x := if_pos h
theorem ur_o {A : Int → Int} {k x j : Int} (h : j ≠ k) : ur A k x j = A j := if_neg h
theorem sv_s {V : Vm} {a : Nat} {k x : Int} : sv V a k x a = ur (V a) k x := if_pos rfl
theorem sv_o {V : Vm} {a b : Nat} {k x : Int} (h : b ≠ a) : sv V a k x b = V b := if_neg h
theorem iv_add (a b : Int) : iv a + iv b = iv (a + b) := (Int32.ofInt_add a b).symm
theorem iv_sub (a b : Int) : iv a - iv b = iv (a - b) := (Int32.ofInt_sub a b).symm
theorem iv_mul (a b : Int) : iv a * iv b = iv (a * b) := (Int32.ofInt_mul a b).symm
theorem iv_neg (a : Int) : -iv a = iv (-a) := (Int32.ofInt_neg a).symm
theorem jv_add (a b : Int) : jv a + jv b = jv (a + b) := (Int64.ofInt_add a b).symm
theorem jv_sub (a b : Int) : jv a - jv b = jv (a - b) := (Int64.ofInt_sub a b).symm
theorem jv_mul (a b : Int) : jv a * jv b = jv (a * b) := (Int64.ofInt_mul a b).symm
theorem jv_neg (a : Int) : -jv a = jv (-a) := (Int64.ofInt_neg a).symm
theorem iv_of (x : Int32) : iv x.toInt = x := Int32.ofInt_toInt x
theorem jv_of (x : Int64) : jv x.toInt = x := Int64.ofInt_toInt x
theorem iv_toInt {a : Int} (h : -2147483648 ≤ a ∧ a < 2147483648) : (iv a).toInt = a := Int32.toInt_ofInt_of_le (by omega) (by omega)
theorem jv_toInt {a : Int} (h : -9223372036854775808 ≤ a ∧ a < 9223372036854775808) : (jv a).toInt = a := Int64.toInt_ofInt_of_le (by omega) (by omega)
theorem toInt_rg (x : Int32) : -2147483648 ≤ x.toInt ∧ x.toInt < 2147483648 := ⟨by have := x.le_toInt; omega, by have := x.toInt_lt; omega⟩
theorem iv_clamp {a : Int} (h : 0 ≤ a ∧ a < 2147483648) : ((iv a).toNatClampNeg : Int) = a := by
  rw [show (iv a).toNatClampNeg = a.toNat from Int32.toNatClampNeg_ofInt_of_le (by omega) (by omega)]
  omega
theorem iv_ltT {a b : Int} (h : -2147483648 ≤ a ∧ a < b ∧ b < 2147483648) : (iv a < iv b) = True := by
  rw [Int32.lt_iff_toInt_lt, iv_toInt (by omega), iv_toInt (by omega)]; exact eq_true h.2.1
theorem iv_ltF {a b : Int} (h : -2147483648 ≤ b ∧ b ≤ a ∧ a < 2147483648) : (iv a < iv b) = False := by
  rw [Int32.lt_iff_toInt_lt, iv_toInt (by omega), iv_toInt (by omega)]; exact eq_false (by omega)
theorem iv_leT {a b : Int} (h : -2147483648 ≤ a ∧ a ≤ b ∧ b < 2147483648) : (iv a ≤ iv b) = True := by
  rw [Int32.le_iff_toInt_le, iv_toInt (by omega), iv_toInt (by omega)]; exact eq_true h.2.1
theorem iv_leF {a b : Int} (h : -2147483648 ≤ b ∧ b < a ∧ a < 2147483648) : (iv a ≤ iv b) = False := by
  rw [Int32.le_iff_toInt_le, iv_toInt (by omega), iv_toInt (by omega)]; exact eq_false (by omega)
theorem iv_eqT {a b : Int} (h : a = b) : (iv a = iv b) = True := by rw [h]; exact eq_true rfl
theorem iv_eqF {a b : Int} (h : -2147483648 ≤ a ∧ a < 2147483648 ∧ -2147483648 ≤ b ∧ b < 2147483648 ∧ (a < b ∨ b < a)) : (iv a = iv b) = False := by
  refine eq_false fun e => ?_
  have q := congrArg Int32.toInt e
  rw [iv_toInt (by omega), iv_toInt (by omega)] at q
  omega
theorem nat_eqF {a b : Nat} (h : a < b ∨ b < a) : (a = b) = False := eq_false (by omega)
theorem iv_div {a b : Int} (h : 0 ≤ a ∧ a < 2147483648 ∧ 0 < b ∧ b < 2147483648) : iv a / iv b = iv (a / b) := by
  have q : Int32.ofInt (a.tdiv b) = Int32.ofInt a / Int32.ofInt b := Int32.ofInt_tdiv (by rw [Int32.toInt_minValue]; omega) (by rw [Int32.toInt_maxValue]; omega) (by rw [Int32.toInt_minValue]; omega) (by rw [Int32.toInt_maxValue]; omega)
  rw [Int.tdiv_eq_ediv_of_nonneg h.1] at q
  exact q.symm
theorem iv_mod {a b : Int} (h : 0 ≤ a ∧ a < 2147483648 ∧ 0 < b ∧ b < 2147483648) : iv a % iv b = iv (a % b) := by
  have q : Int32.ofInt (a.tmod b) = Int32.ofInt a % Int32.ofInt b := Int32.ofInt_tmod (by rw [Int32.toInt_minValue]; omega) (by rw [Int32.toInt_maxValue]; omega) (by rw [Int32.toInt_minValue]; omega) (by rw [Int32.toInt_maxValue]; omega)
  rw [Int.tmod_eq_emod_of_nonneg h.1] at q
  exact q.symm
theorem jv_div {a b : Int} (h : 0 ≤ a ∧ a < 9223372036854775808 ∧ 0 < b ∧ b < 9223372036854775808) : jv a / jv b = jv (a / b) := by
  have q : Int64.ofInt (a.tdiv b) = Int64.ofInt a / Int64.ofInt b := Int64.ofInt_tdiv (by rw [Int64.toInt_minValue]; omega) (by rw [Int64.toInt_maxValue]; omega) (by rw [Int64.toInt_minValue]; omega) (by rw [Int64.toInt_maxValue]; omega)
  rw [Int.tdiv_eq_ediv_of_nonneg h.1] at q
  exact q.symm
theorem jv_mod {a b : Int} (h : 0 ≤ a ∧ a < 9223372036854775808 ∧ 0 < b ∧ b < 9223372036854775808) : jv a % jv b = jv (a % b) := by
  have q : Int64.ofInt (a.tmod b) = Int64.ofInt a % Int64.ofInt b := Int64.ofInt_tmod (by rw [Int64.toInt_minValue]; omega) (by rw [Int64.toInt_maxValue]; omega) (by rw [Int64.toInt_minValue]; omega) (by rw [Int64.toInt_maxValue]; omega)
  rw [Int.tmod_eq_emod_of_nonneg h.1] at q
  exact q.symm
theorem iv_long {a : Int} (h : -2147483648 ≤ a ∧ a < 2147483648) : (iv a).toInt64 = jv a := by
  apply Int64.toInt.inj
  rw [Int32.toInt_toInt64, iv_toInt h, jv_toInt (by omega)]
theorem jv_int {a : Int} : (jv a).toInt32 = iv a := Int64.toInt32_ofInt
theorem jc_gt {a b : Int} (h : -9223372036854775808 ≤ b ∧ b < a ∧ a < 9223372036854775808) : lg_cmp (jv a) (jv b) = iv 1 := by
  unfold lg_cmp
  rw [if_pos (show jv b < jv a from Int64.lt_iff_toInt_lt.mpr (by rw [jv_toInt (by omega), jv_toInt (by omega)]; omega))]
  rfl
theorem jc_eq {a b : Int} (h : a = b) : lg_cmp (jv a) (jv b) = iv 0 := by
  subst h
  unfold lg_cmp
  rw [if_neg (show ¬ jv a < jv a from fun q => by have := Int64.lt_iff_toInt_lt.mp q; omega), if_pos rfl]
  rfl
theorem jc_lt {a b : Int} (h : -9223372036854775808 ≤ a ∧ a < b ∧ b < 9223372036854775808) : lg_cmp (jv a) (jv b) = iv (-1) := by
  unfold lg_cmp
  rw [if_neg (show ¬ jv b < jv a from fun q => by have := Int64.lt_iff_toInt_lt.mp q; rw [jv_toInt (by omega), jv_toInt (by omega)] at this; omega), if_neg (show ¬ jv a = jv b from fun q => by have := congrArg Int64.toInt q; rw [jv_toInt (by omega), jv_toInt (by omega)] at this; omega)]
  rfl
/-- a boolean as an int -/
def bz (p : Prop) [Decidable p] : Int := if p then 1 else 0
theorem bz_T {p : Prop} [Decidable p] (h : p) : bz p = 1 := if_pos h
theorem bz_F {p : Prop} [Decidable p] (h : ¬ p) : bz p = 0 := if_neg h
theorem rt_e {x : Int} {h : Mem} (hx : x = 0 ∨ x = 1) : rtN 1 (iv x) h = some (.int (iv x), h) := by
  rcases hx with rfl | rfl <;> rfl
section
variable {V J : Vm} {z : Zz}
theorem stt_em {a n : Nat} {x : Int} : stt (fun a (k : Nat) => iv (V a k)) a n (iv x) = fun b (j : Nat) => iv (sv V a n x b j) := by
  funext b j
  rw [stt_a]
  unfold sv ur
  by_cases hb : b = a
  · subst hb
    by_cases hj : j = n
    · subst hj; rw [if_pos ⟨rfl, rfl⟩, if_pos rfl, if_pos rfl]
    · rw [if_neg (fun q => hj q.2), if_pos rfl, if_neg (by omega)]
  · rw [if_neg (fun q => hb q.1), if_neg hb]
theorem upL_em {a n : Nat} {x : Int} : va_up (fun a (k : Nat) => jv (J a k)) a (vp_updL (fun (k : Nat) => jv (J a k)) n (jv x)) = fun b (j : Nat) => jv (sv J a n x b j) := by
  funext b j
  unfold sv ur va_up vp_updL
  by_cases hb : b = a
  · subst hb
    rw [if_pos rfl, if_pos rfl]
    by_cases hj : j = n
    · subst hj; rw [if_pos rfl, if_pos rfl]
    · rw [if_neg hj, if_neg (by omega)]
  · rw [if_neg hb, if_neg hb]
theorem gfI_e {ci k a n : Nat} {f : Int32 → Rs} (h : z.2.1 a = (16 + ci, n)) : gfI (em V J z) ci k a f = f (iv (V a k)) := gfI_z h
theorem gfJ_e {ci k a n : Nat} {f : Int64 → Rs} (h : z.2.1 a = (16 + ci, n)) : gfJ (em V J z) ci k a f = f (jv (J a k)) := gfJ_z h
theorem gfR_e {ci k a n : Nat} {f : Nat → Rs} (h : z.2.1 a = (16 + ci, n)) : gfR (em V J z) ci k a f = f (z.1 a k) := gfR_z h
theorem pfI_e {ci k a n : Nat} {x : Int} {f : Mem → Rs} (h : z.2.1 a = (16 + ci, n)) (h8 : 8 ≤ a) : pfI (em V J z) ci k a (iv x) f = f (em (sv V a k x) J z) := (pfI_z h h8).trans (by rw [stt_em]; rfl)
theorem pfZ_e {ci k a n : Nat} {x : Int} {f : Mem → Rs} (h : z.2.1 a = (16 + ci, n)) (h8 : 8 ≤ a) (hx : x = 0 ∨ x = 1) : pfZ (em V J z) ci k a (iv x) f = f (em (sv V a k x) J z) := (pfZ_z h h8 (by rcases hx with rfl | rfl <;> decide)).trans (by rw [stt_em]; rfl)
theorem pfJ_e {ci k a n : Nat} {x : Int} {f : Mem → Rs} (h : z.2.1 a = (16 + ci, n)) (h8 : 8 ≤ a) : pfJ (em V J z) ci k a (jv x) f = f (em V (sv J a k x) z) := (pfJ_z h h8).trans (by rw [upL_em]; rfl)
theorem ibi {i : Int} {n : Nat} (h : 0 ≤ i ∧ i < n) (hn : n < 2147483648) : 0 ≤ (iv i).toInt ∧ (iv i).toInt < n := by rw [iv_toInt (by omega)]; exact h
theorem icl {i : Int} {n : Nat} (h : 0 ≤ i ∧ i < n) (hn : n < 2147483648) : ((iv i).toNatClampNeg : Int) = i := iv_clamp (by omega)
theorem ldI_e {a n : Nat} {i : Int} {f : Int32 → Rs} (h : z.2.1 a = (1, n)) (hi : 0 ≤ i ∧ i < n) (hn : n < 2147483648) : ldI (em V J z) a (iv i) f = f (iv (V a i)) := (ldI_z h (ibi hi hn)).trans (by rw [icl hi hn])
theorem ldIx_e {a n : Nat} {i : Int} {f : Int32 → Rs} (h : z.2.1 a = (8, n)) (hi : 0 ≤ i ∧ i < n) (hn : n < 2147483648) : ldI (em V J z) a (iv i) f = f (iv (V a i)) := (ldI_x h (ibi hi hn)).trans (by rw [icl hi hn])
theorem ldB_e {a n : Nat} {i : Int} {f : Int32 → Rs} (h : z.2.1 a = (2, n)) (hi : 0 ≤ i ∧ i < n) (hn : n < 2147483648) : ldB (em V J z) a (iv i) f = f (iv (V a i)) := (ldB_z h (ibi hi hn)).trans (by rw [icl hi hn])
theorem ldBx_e {a n : Nat} {i : Int} {f : Int32 → Rs} (h : z.2.1 a = (9, n)) (hi : 0 ≤ i ∧ i < n) (hn : n < 2147483648) : ldB (em V J z) a (iv i) f = f (iv (V a i)) := (ldB_x h (ibi hi hn)).trans (by rw [icl hi hn])
theorem ldJ_e {a n : Nat} {i : Int} {f : Int64 → Rs} (h : z.2.1 a = (3, n)) (hi : 0 ≤ i ∧ i < n) (hn : n < 2147483648) : ldJ (em V J z) a (iv i) f = f (jv (J a i)) := (ldJ_z h (ibi hi hn)).trans (by rw [icl hi hn])
theorem stI_e {a n : Nat} {i x : Int} {f : Mem → Rs} (h : z.2.1 a = (1, n)) (hi : 0 ≤ i ∧ i < n) (hn : n < 2147483648) : stI (em V J z) a (iv i) (iv x) f = f (em (sv V a i x) J z) := (stI_z h (ibi hi hn)).trans (by rw [stt_em, icl hi hn]; rfl)
theorem stB_e {a n : Nat} {i x : Int} {f : Mem → Rs} (h : z.2.1 a = (2, n)) (hx : x = 0 ∨ x = 1) (hi : 0 ≤ i ∧ i < n) (hn : n < 2147483648) : stB (em V J z) a (iv i) (iv x) f = f (em (sv V a i x) J z) := (stB_z h (by rcases hx with rfl | rfl <;> decide) (ibi hi hn)).trans (by rw [stt_em, icl hi hn]; rfl)
theorem stJ_e {a n : Nat} {i x : Int} {f : Mem → Rs} (h : z.2.1 a = (3, n)) (hi : 0 ≤ i ∧ i < n) (hn : n < 2147483648) : stJ (em V J z) a (iv i) (jv x) f = f (em V (sv J a i x) z) := (stJ_z h (ibi hi hn)).trans (by rw [upL_em, icl hi hn]; rfl)
theorem alN_e {a k n : Nat} {f : Int32 → Rs} (h : z.2.1 a = (k, n)) (hk : isAr k = true) : alN (em V J z) a f = f (iv n) := (alN_z h hk).trans (by rw [show Int32.ofNat n = iv n from (Int32.ofInt_eq_ofNat).symm])
theorem Tab.s1 {t : Nat} (T : Tab z t) : z.2.1 (t + 1) = (1, 6) := T.2.2.1
theorem Tab.s2 {t : Nat} (T : Tab z t) : z.2.1 (t + 2) = (1, 6) := T.2.2.2.1
theorem Tab.s3 {t : Nat} (T : Tab z t) : z.2.1 (t + 3) = (1, 6) := T.2.2.2.2.1
theorem Tab.s4 {t : Nat} (T : Tab z t) : z.2.1 (t + 4) = (1, 6) := T.2.2.2.2.2.1
theorem Tab.s5 {t : Nat} (T : Tab z t) : z.2.1 (t + 5) = (1, 25) := T.2.2.2.2.2.2.1
theorem Tab.r0 {t : Nat} (T : Tab z t) : z.1 t 0 = t + 1 := T.2.2.2.2.2.2.2.1
theorem Tab.r1 {t : Nat} (T : Tab z t) : z.1 t 1 = t + 2 := T.2.2.2.2.2.2.2.2.1
theorem Tab.r2 {t : Nat} (T : Tab z t) : z.1 t 2 = t + 3 := T.2.2.2.2.2.2.2.2.2.1
theorem Tab.r3 {t : Nat} (T : Tab z t) : z.1 t 3 = t + 4 := T.2.2.2.2.2.2.2.2.2.2.1
theorem Tab.r4 {t : Nat} (T : Tab z t) : z.1 t 4 = t + 5 := T.2.2.2.2.2.2.2.2.2.2.2
end
section
variable {V J : Vm} {z : Zz}
theorem gI_9_9 (F : Fix z) {f : Int32 → Rs} : gfI (em V J z) 2 9 9 f = f (iv (V 9 9)) := gfI_e (s_9 F)
theorem pI_9_9 (F : Fix z) {x : Int} {f : Mem → Rs} : pfI (em V J z) 2 9 9 (iv x) f = f (em (sv V 9 9 x) J z) := pfI_e (s_9 F) (by decide)
theorem gI_9_10 (F : Fix z) {f : Int32 → Rs} : gfI (em V J z) 2 10 9 f = f (iv (V 9 10)) := gfI_e (s_9 F)
theorem pI_9_10 (F : Fix z) {x : Int} {f : Mem → Rs} : pfI (em V J z) 2 10 9 (iv x) f = f (em (sv V 9 10 x) J z) := pfI_e (s_9 F) (by decide)
theorem gI_9_11 (F : Fix z) {f : Int32 → Rs} : gfI (em V J z) 2 11 9 f = f (iv (V 9 11)) := gfI_e (s_9 F)
theorem pI_9_11 (F : Fix z) {x : Int} {f : Mem → Rs} : pfI (em V J z) 2 11 9 (iv x) f = f (em (sv V 9 11 x) J z) := pfI_e (s_9 F) (by decide)
theorem gI_9_12 (F : Fix z) {f : Int32 → Rs} : gfI (em V J z) 2 12 9 f = f (iv (V 9 12)) := gfI_e (s_9 F)
theorem pI_9_12 (F : Fix z) {x : Int} {f : Mem → Rs} : pfI (em V J z) 2 12 9 (iv x) f = f (em (sv V 9 12 x) J z) := pfI_e (s_9 F) (by decide)
theorem gI_21_2 (F : Fix z) {f : Int32 → Rs} : gfI (em V J z) 3 2 21 f = f (iv (V 21 2)) := gfI_e (s_21 F)
theorem pI_21_2 (F : Fix z) {x : Int} {f : Mem → Rs} : pfI (em V J z) 3 2 21 (iv x) f = f (em (sv V 21 2 x) J z) := pfI_e (s_21 F) (by decide)
theorem gI_24_2 (F : Fix z) {f : Int32 → Rs} : gfI (em V J z) 3 2 24 f = f (iv (V 24 2)) := gfI_e (s_24 F)
theorem pI_24_2 (F : Fix z) {x : Int} {f : Mem → Rs} : pfI (em V J z) 3 2 24 (iv x) f = f (em (sv V 24 2 x) J z) := pfI_e (s_24 F) (by decide)
theorem gI_27_2 (F : Fix z) {f : Int32 → Rs} : gfI (em V J z) 3 2 27 f = f (iv (V 27 2)) := gfI_e (s_27 F)
theorem pI_27_2 (F : Fix z) {x : Int} {f : Mem → Rs} : pfI (em V J z) 3 2 27 (iv x) f = f (em (sv V 27 2 x) J z) := pfI_e (s_27 F) (by decide)
theorem gI_210_9 (F : Fix z) {f : Int32 → Rs} : gfI (em V J z) 2 9 210 f = f (iv (V 210 9)) := gfI_e (s_210 F)
theorem pI_210_9 (F : Fix z) {x : Int} {f : Mem → Rs} : pfI (em V J z) 2 9 210 (iv x) f = f (em (sv V 210 9 x) J z) := pfI_e (s_210 F) (by decide)
theorem gI_210_10 (F : Fix z) {f : Int32 → Rs} : gfI (em V J z) 2 10 210 f = f (iv (V 210 10)) := gfI_e (s_210 F)
theorem pI_210_10 (F : Fix z) {x : Int} {f : Mem → Rs} : pfI (em V J z) 2 10 210 (iv x) f = f (em (sv V 210 10 x) J z) := pfI_e (s_210 F) (by decide)
theorem gI_210_11 (F : Fix z) {f : Int32 → Rs} : gfI (em V J z) 2 11 210 f = f (iv (V 210 11)) := gfI_e (s_210 F)
theorem pI_210_11 (F : Fix z) {x : Int} {f : Mem → Rs} : pfI (em V J z) 2 11 210 (iv x) f = f (em (sv V 210 11 x) J z) := pfI_e (s_210 F) (by decide)
theorem gI_210_12 (F : Fix z) {f : Int32 → Rs} : gfI (em V J z) 2 12 210 f = f (iv (V 210 12)) := gfI_e (s_210 F)
theorem pI_210_12 (F : Fix z) {x : Int} {f : Mem → Rs} : pfI (em V J z) 2 12 210 (iv x) f = f (em (sv V 210 12 x) J z) := pfI_e (s_210 F) (by decide)
theorem gI_222_2 (F : Fix z) {f : Int32 → Rs} : gfI (em V J z) 3 2 222 f = f (iv (V 222 2)) := gfI_e (s_222 F)
theorem pI_222_2 (F : Fix z) {x : Int} {f : Mem → Rs} : pfI (em V J z) 3 2 222 (iv x) f = f (em (sv V 222 2 x) J z) := pfI_e (s_222 F) (by decide)
theorem gI_225_2 (F : Fix z) {f : Int32 → Rs} : gfI (em V J z) 3 2 225 f = f (iv (V 225 2)) := gfI_e (s_225 F)
theorem pI_225_2 (F : Fix z) {x : Int} {f : Mem → Rs} : pfI (em V J z) 3 2 225 (iv x) f = f (em (sv V 225 2 x) J z) := pfI_e (s_225 F) (by decide)
theorem gI_228_2 (F : Fix z) {f : Int32 → Rs} : gfI (em V J z) 3 2 228 f = f (iv (V 228 2)) := gfI_e (s_228 F)
theorem pI_228_2 (F : Fix z) {x : Int} {f : Mem → Rs} : pfI (em V J z) 3 2 228 (iv x) f = f (em (sv V 228 2 x) J z) := pfI_e (s_228 F) (by decide)
theorem gI_419_1 (F : Fix z) {f : Int32 → Rs} : gfI (em V J z) 8 1 419 f = f (iv (V 419 1)) := gfI_e (s_419 F)
theorem pI_419_1 (F : Fix z) {x : Int} {f : Mem → Rs} : pfI (em V J z) 8 1 419 (iv x) f = f (em (sv V 419 1 x) J z) := pfI_e (s_419 F) (by decide)
theorem gI_419_5 (F : Fix z) {f : Int32 → Rs} : gfI (em V J z) 8 5 419 f = f (iv (V 419 5)) := gfI_e (s_419 F)
theorem pI_419_5 (F : Fix z) {x : Int} {f : Mem → Rs} : pfI (em V J z) 8 5 419 (iv x) f = f (em (sv V 419 5 x) J z) := pfI_e (s_419 F) (by decide)
theorem gI_424_3 (F : Fix z) {f : Int32 → Rs} : gfI (em V J z) 4 3 424 f = f (iv (V 424 3)) := gfI_e (s_424 F)
theorem pI_424_3 (F : Fix z) {x : Int} {f : Mem → Rs} : pfI (em V J z) 4 3 424 (iv x) f = f (em (sv V 424 3 x) J z) := pfI_e (s_424 F) (by decide)
theorem gI_424_4 (F : Fix z) {f : Int32 → Rs} : gfI (em V J z) 4 4 424 f = f (iv (V 424 4)) := gfI_e (s_424 F)
theorem pI_424_4 (F : Fix z) {x : Int} {f : Mem → Rs} : pfI (em V J z) 4 4 424 (iv x) f = f (em (sv V 424 4 x) J z) := pfI_e (s_424 F) (by decide)
theorem gI_424_5 (F : Fix z) {f : Int32 → Rs} : gfI (em V J z) 4 5 424 f = f (iv (V 424 5)) := gfI_e (s_424 F)
theorem pI_424_5 (F : Fix z) {x : Int} {f : Mem → Rs} : pfI (em V J z) 4 5 424 (iv x) f = f (em (sv V 424 5 x) J z) := pfI_e (s_424 F) (by decide)
theorem gI_424_6 (F : Fix z) {f : Int32 → Rs} : gfI (em V J z) 4 6 424 f = f (iv (V 424 6)) := gfI_e (s_424 F)
theorem pI_424_6 (F : Fix z) {x : Int} {f : Mem → Rs} : pfI (em V J z) 4 6 424 (iv x) f = f (em (sv V 424 6 x) J z) := pfI_e (s_424 F) (by decide)
theorem gI_424_7 (F : Fix z) {f : Int32 → Rs} : gfI (em V J z) 4 7 424 f = f (iv (V 424 7)) := gfI_e (s_424 F)
theorem pI_424_7 (F : Fix z) {x : Int} {f : Mem → Rs} : pfI (em V J z) 4 7 424 (iv x) f = f (em (sv V 424 7 x) J z) := pfI_e (s_424 F) (by decide)
theorem gI_424_8 (F : Fix z) {f : Int32 → Rs} : gfI (em V J z) 4 8 424 f = f (iv (V 424 8)) := gfI_e (s_424 F)
theorem pI_424_8 (F : Fix z) {x : Int} {f : Mem → Rs} : pfI (em V J z) 4 8 424 (iv x) f = f (em (sv V 424 8 x) J z) := pfI_e (s_424 F) (by decide)
theorem gI_424_9 (F : Fix z) {f : Int32 → Rs} : gfI (em V J z) 4 9 424 f = f (iv (V 424 9)) := gfI_e (s_424 F)
theorem pI_424_9 (F : Fix z) {x : Int} {f : Mem → Rs} : pfI (em V J z) 4 9 424 (iv x) f = f (em (sv V 424 9 x) J z) := pfI_e (s_424 F) (by decide)
theorem gI_424_10 (F : Fix z) {f : Int32 → Rs} : gfI (em V J z) 4 10 424 f = f (iv (V 424 10)) := gfI_e (s_424 F)
theorem pI_424_10 (F : Fix z) {x : Int} {f : Mem → Rs} : pfI (em V J z) 4 10 424 (iv x) f = f (em (sv V 424 10 x) J z) := pfI_e (s_424 F) (by decide)
theorem gI_427_2 (F : Fix z) {f : Int32 → Rs} : gfI (em V J z) 5 2 427 f = f (iv (V 427 2)) := gfI_e (s_427 F)
theorem pI_427_2 (F : Fix z) {x : Int} {f : Mem → Rs} : pfI (em V J z) 5 2 427 (iv x) f = f (em (sv V 427 2 x) J z) := pfI_e (s_427 F) (by decide)
theorem gI_427_3 (F : Fix z) {f : Int32 → Rs} : gfI (em V J z) 5 3 427 f = f (iv (V 427 3)) := gfI_e (s_427 F)
theorem pI_427_3 (F : Fix z) {x : Int} {f : Mem → Rs} : pfI (em V J z) 5 3 427 (iv x) f = f (em (sv V 427 3 x) J z) := pfI_e (s_427 F) (by decide)
theorem gI_427_4 (F : Fix z) {f : Int32 → Rs} : gfI (em V J z) 5 4 427 f = f (iv (V 427 4)) := gfI_e (s_427 F)
theorem pI_427_4 (F : Fix z) {x : Int} {f : Mem → Rs} : pfI (em V J z) 5 4 427 (iv x) f = f (em (sv V 427 4 x) J z) := pfI_e (s_427 F) (by decide)
theorem gI_427_5 (F : Fix z) {f : Int32 → Rs} : gfI (em V J z) 5 5 427 f = f (iv (V 427 5)) := gfI_e (s_427 F)
theorem pI_427_5 (F : Fix z) {x : Int} {f : Mem → Rs} : pfI (em V J z) 5 5 427 (iv x) f = f (em (sv V 427 5 x) J z) := pfI_e (s_427 F) (by decide)
theorem gI_427_6 (F : Fix z) {f : Int32 → Rs} : gfI (em V J z) 5 6 427 f = f (iv (V 427 6)) := gfI_e (s_427 F)
theorem pI_427_6 (F : Fix z) {x : Int} {f : Mem → Rs} : pfI (em V J z) 5 6 427 (iv x) f = f (em (sv V 427 6 x) J z) := pfI_e (s_427 F) (by decide)
theorem gI_427_7 (F : Fix z) {f : Int32 → Rs} : gfI (em V J z) 5 7 427 f = f (iv (V 427 7)) := gfI_e (s_427 F)
theorem pI_427_7 (F : Fix z) {x : Int} {f : Mem → Rs} : pfI (em V J z) 5 7 427 (iv x) f = f (em (sv V 427 7 x) J z) := pfI_e (s_427 F) (by decide)
theorem gI_430_0 (F : Fix z) {f : Int32 → Rs} : gfI (em V J z) 1 0 430 f = f (iv (V 430 0)) := gfI_e (s_430 F)
theorem pI_430_0 (F : Fix z) {x : Int} {f : Mem → Rs} : pfI (em V J z) 1 0 430 (iv x) f = f (em (sv V 430 0 x) J z) := pfI_e (s_430 F) (by decide)
theorem gI_430_1 (F : Fix z) {f : Int32 → Rs} : gfI (em V J z) 1 1 430 f = f (iv (V 430 1)) := gfI_e (s_430 F)
theorem pI_430_1 (F : Fix z) {x : Int} {f : Mem → Rs} : pfI (em V J z) 1 1 430 (iv x) f = f (em (sv V 430 1 x) J z) := pfI_e (s_430 F) (by decide)
theorem gI_430_2 (F : Fix z) {f : Int32 → Rs} : gfI (em V J z) 1 2 430 f = f (iv (V 430 2)) := gfI_e (s_430 F)
theorem pI_430_2 (F : Fix z) {x : Int} {f : Mem → Rs} : pfI (em V J z) 1 2 430 (iv x) f = f (em (sv V 430 2 x) J z) := pfI_e (s_430 F) (by decide)
theorem gI_430_3 (F : Fix z) {f : Int32 → Rs} : gfI (em V J z) 1 3 430 f = f (iv (V 430 3)) := gfI_e (s_430 F)
theorem pI_430_3 (F : Fix z) {x : Int} {f : Mem → Rs} : pfI (em V J z) 1 3 430 (iv x) f = f (em (sv V 430 3 x) J z) := pfI_e (s_430 F) (by decide)
theorem gI_431_3 (F : Fix z) {f : Int32 → Rs} : gfI (em V J z) 6 3 431 f = f (iv (V 431 3)) := gfI_e (s_431 F)
theorem pI_431_3 (F : Fix z) {x : Int} {f : Mem → Rs} : pfI (em V J z) 6 3 431 (iv x) f = f (em (sv V 431 3 x) J z) := pfI_e (s_431 F) (by decide)
theorem gI_435_4 (F : Fix z) {f : Int32 → Rs} : gfI (em V J z) 11 4 435 f = f (iv (V 435 4)) := gfI_e (s_435 F)
theorem pI_435_4 (F : Fix z) {x : Int} {f : Mem → Rs} : pfI (em V J z) 11 4 435 (iv x) f = f (em (sv V 435 4 x) J z) := pfI_e (s_435 F) (by decide)
theorem gI_435_5 (F : Fix z) {f : Int32 → Rs} : gfI (em V J z) 11 5 435 f = f (iv (V 435 5)) := gfI_e (s_435 F)
theorem pI_435_5 (F : Fix z) {x : Int} {f : Mem → Rs} : pfI (em V J z) 11 5 435 (iv x) f = f (em (sv V 435 5 x) J z) := pfI_e (s_435 F) (by decide)
theorem gI_435_6 (F : Fix z) {f : Int32 → Rs} : gfI (em V J z) 11 6 435 f = f (iv (V 435 6)) := gfI_e (s_435 F)
theorem pI_435_6 (F : Fix z) {x : Int} {f : Mem → Rs} : pfI (em V J z) 11 6 435 (iv x) f = f (em (sv V 435 6 x) J z) := pfI_e (s_435 F) (by decide)
theorem gI_435_7 (F : Fix z) {f : Int32 → Rs} : gfI (em V J z) 11 7 435 f = f (iv (V 435 7)) := gfI_e (s_435 F)
theorem pI_435_7 (F : Fix z) {x : Int} {f : Mem → Rs} : pfI (em V J z) 11 7 435 (iv x) f = f (em (sv V 435 7 x) J z) := pfI_e (s_435 F) (by decide)
theorem gI_435_8 (F : Fix z) {f : Int32 → Rs} : gfI (em V J z) 11 8 435 f = f (iv (V 435 8)) := gfI_e (s_435 F)
theorem pI_435_8 (F : Fix z) {x : Int} {f : Mem → Rs} : pfI (em V J z) 11 8 435 (iv x) f = f (em (sv V 435 8 x) J z) := pfI_e (s_435 F) (by decide)
theorem gI_435_9 (F : Fix z) {f : Int32 → Rs} : gfI (em V J z) 11 9 435 f = f (iv (V 435 9)) := gfI_e (s_435 F)
theorem pI_435_9 (F : Fix z) {x : Int} {f : Mem → Rs} : pfI (em V J z) 11 9 435 (iv x) f = f (em (sv V 435 9 x) J z) := pfI_e (s_435 F) (by decide)
theorem gI_435_10 (F : Fix z) {f : Int32 → Rs} : gfI (em V J z) 11 10 435 f = f (iv (V 435 10)) := gfI_e (s_435 F)
theorem pI_435_10 (F : Fix z) {x : Int} {f : Mem → Rs} : pfI (em V J z) 11 10 435 (iv x) f = f (em (sv V 435 10 x) J z) := pfI_e (s_435 F) (by decide)
theorem gI_435_12 (F : Fix z) {f : Int32 → Rs} : gfI (em V J z) 11 12 435 f = f (iv (V 435 12)) := gfI_e (s_435 F)
theorem pI_435_12 (F : Fix z) {x : Int} {f : Mem → Rs} : pfI (em V J z) 11 12 435 (iv x) f = f (em (sv V 435 12 x) J z) := pfI_e (s_435 F) (by decide)
theorem gI_435_13 (F : Fix z) {f : Int32 → Rs} : gfI (em V J z) 11 13 435 f = f (iv (V 435 13)) := gfI_e (s_435 F)
theorem pI_435_13 (F : Fix z) {x : Int} {f : Mem → Rs} : pfI (em V J z) 11 13 435 (iv x) f = f (em (sv V 435 13 x) J z) := pfI_e (s_435 F) (by decide)
theorem gI_435_14 (F : Fix z) {f : Int32 → Rs} : gfI (em V J z) 11 14 435 f = f (iv (V 435 14)) := gfI_e (s_435 F)
theorem pI_435_14 (F : Fix z) {x : Int} {f : Mem → Rs} : pfI (em V J z) 11 14 435 (iv x) f = f (em (sv V 435 14 x) J z) := pfI_e (s_435 F) (by decide)
theorem gI_435_16 (F : Fix z) {f : Int32 → Rs} : gfI (em V J z) 11 16 435 f = f (iv (V 435 16)) := gfI_e (s_435 F)
theorem pI_435_16 (F : Fix z) {x : Int} {f : Mem → Rs} : pfI (em V J z) 11 16 435 (iv x) f = f (em (sv V 435 16 x) J z) := pfI_e (s_435 F) (by decide)
theorem gI_435_17 (F : Fix z) {f : Int32 → Rs} : gfI (em V J z) 11 17 435 f = f (iv (V 435 17)) := gfI_e (s_435 F)
theorem pI_435_17 (F : Fix z) {x : Int} {f : Mem → Rs} : pfI (em V J z) 11 17 435 (iv x) f = f (em (sv V 435 17 x) J z) := pfI_e (s_435 F) (by decide)
theorem gI_435_19 (F : Fix z) {f : Int32 → Rs} : gfI (em V J z) 11 19 435 f = f (iv (V 435 19)) := gfI_e (s_435 F)
theorem pI_435_19 (F : Fix z) {x : Int} {f : Mem → Rs} : pfI (em V J z) 11 19 435 (iv x) f = f (em (sv V 435 19 x) J z) := pfI_e (s_435 F) (by decide)
theorem gI_435_24 (F : Fix z) {f : Int32 → Rs} : gfI (em V J z) 11 24 435 f = f (iv (V 435 24)) := gfI_e (s_435 F)
theorem pI_435_24 (F : Fix z) {x : Int} {f : Mem → Rs} : pfI (em V J z) 11 24 435 (iv x) f = f (em (sv V 435 24 x) J z) := pfI_e (s_435 F) (by decide)
theorem gI_435_28 (F : Fix z) {f : Int32 → Rs} : gfI (em V J z) 11 28 435 f = f (iv (V 435 28)) := gfI_e (s_435 F)
theorem pI_435_28 (F : Fix z) {x : Int} {f : Mem → Rs} : pfI (em V J z) 11 28 435 (iv x) f = f (em (sv V 435 28 x) J z) := pfI_e (s_435 F) (by decide)
theorem gI_435_29 (F : Fix z) {f : Int32 → Rs} : gfI (em V J z) 11 29 435 f = f (iv (V 435 29)) := gfI_e (s_435 F)
theorem pI_435_29 (F : Fix z) {x : Int} {f : Mem → Rs} : pfI (em V J z) 11 29 435 (iv x) f = f (em (sv V 435 29 x) J z) := pfI_e (s_435 F) (by decide)
theorem gI_435_30 (F : Fix z) {f : Int32 → Rs} : gfI (em V J z) 11 30 435 f = f (iv (V 435 30)) := gfI_e (s_435 F)
theorem pI_435_30 (F : Fix z) {x : Int} {f : Mem → Rs} : pfI (em V J z) 11 30 435 (iv x) f = f (em (sv V 435 30 x) J z) := pfI_e (s_435 F) (by decide)
theorem gI_435_32 (F : Fix z) {f : Int32 → Rs} : gfI (em V J z) 11 32 435 f = f (iv (V 435 32)) := gfI_e (s_435 F)
theorem pI_435_32 (F : Fix z) {x : Int} {f : Mem → Rs} : pfI (em V J z) 11 32 435 (iv x) f = f (em (sv V 435 32 x) J z) := pfI_e (s_435 F) (by decide)
theorem gI_435_33 (F : Fix z) {f : Int32 → Rs} : gfI (em V J z) 11 33 435 f = f (iv (V 435 33)) := gfI_e (s_435 F)
theorem pI_435_33 (F : Fix z) {x : Int} {f : Mem → Rs} : pfI (em V J z) 11 33 435 (iv x) f = f (em (sv V 435 33 x) J z) := pfI_e (s_435 F) (by decide)
theorem gI_435_34 (F : Fix z) {f : Int32 → Rs} : gfI (em V J z) 11 34 435 f = f (iv (V 435 34)) := gfI_e (s_435 F)
theorem pI_435_34 (F : Fix z) {x : Int} {f : Mem → Rs} : pfI (em V J z) 11 34 435 (iv x) f = f (em (sv V 435 34 x) J z) := pfI_e (s_435 F) (by decide)
theorem gI_435_35 (F : Fix z) {f : Int32 → Rs} : gfI (em V J z) 11 35 435 f = f (iv (V 435 35)) := gfI_e (s_435 F)
theorem pI_435_35 (F : Fix z) {x : Int} {f : Mem → Rs} : pfI (em V J z) 11 35 435 (iv x) f = f (em (sv V 435 35 x) J z) := pfI_e (s_435 F) (by decide)
theorem gI_435_18 (F : Fix z) {f : Int32 → Rs} : gfI (em V J z) 11 18 435 f = f (iv (V 435 18)) := gfI_e (s_435 F)
theorem pI_435_18 (F : Fix z) {x : Int} {f : Mem → Rs} (hx : x = 0 ∨ x = 1) : pfZ (em V J z) 11 18 435 (iv x) f = f (em (sv V 435 18 x) J z) := pfZ_e (s_435 F) (by decide) hx
theorem gI_435_23 (F : Fix z) {f : Int32 → Rs} : gfI (em V J z) 11 23 435 f = f (iv (V 435 23)) := gfI_e (s_435 F)
theorem pI_435_23 (F : Fix z) {x : Int} {f : Mem → Rs} (hx : x = 0 ∨ x = 1) : pfZ (em V J z) 11 23 435 (iv x) f = f (em (sv V 435 23 x) J z) := pfZ_e (s_435 F) (by decide) hx
theorem gJ_435_11 (F : Fix z) {f : Int64 → Rs} : gfJ (em V J z) 11 11 435 f = f (jv (J 435 11)) := gfJ_e (s_435 F)
theorem pJ_435_11 (F : Fix z) {x : Int} {f : Mem → Rs} : pfJ (em V J z) 11 11 435 (jv x) f = f (em V (sv J 435 11 x) z) := pfJ_e (s_435 F) (by decide)
theorem gR_8_0 (F : Fix z) {f : Nat → Rs} : gfR (em V J z) 10 0 8 f = f 9 := (gfR_e (s_8 F)).trans (by rw [r_8_0 F])
theorem gR_8_1 (F : Fix z) {f : Nat → Rs} : gfR (em V J z) 10 1 8 f = f 210 := (gfR_e (s_8 F)).trans (by rw [r_8_1 F])
theorem gR_8_2 (F : Fix z) {f : Nat → Rs} : gfR (em V J z) 10 2 8 f = f 411 := (gfR_e (s_8 F)).trans (by rw [r_8_2 F])
theorem gR_8_3 (F : Fix z) {f : Nat → Rs} : gfR (em V J z) 10 3 8 f = f 417 := (gfR_e (s_8 F)).trans (by rw [r_8_3 F])
theorem gR_8_4 (F : Fix z) {f : Nat → Rs} : gfR (em V J z) 10 4 8 f = f 419 := (gfR_e (s_8 F)).trans (by rw [r_8_4 F])
theorem gR_8_5 (F : Fix z) {f : Nat → Rs} : gfR (em V J z) 10 5 8 f = f 424 := (gfR_e (s_8 F)).trans (by rw [r_8_5 F])
theorem gR_8_6 (F : Fix z) {f : Nat → Rs} : gfR (em V J z) 10 6 8 f = f 427 := (gfR_e (s_8 F)).trans (by rw [r_8_6 F])
theorem gR_8_7 (F : Fix z) {f : Nat → Rs} : gfR (em V J z) 10 7 8 f = f 430 := (gfR_e (s_8 F)).trans (by rw [r_8_7 F])
theorem gR_8_8 (F : Fix z) {f : Nat → Rs} : gfR (em V J z) 10 8 8 f = f 431 := (gfR_e (s_8 F)).trans (by rw [r_8_8 F])
theorem gR_9_0 (F : Fix z) {f : Nat → Rs} : gfR (em V J z) 2 0 9 f = f 10 := (gfR_e (s_9 F)).trans (by rw [r_9_0 F])
theorem gR_9_1 (F : Fix z) {f : Nat → Rs} : gfR (em V J z) 2 1 9 f = f 16 := (gfR_e (s_9 F)).trans (by rw [r_9_1 F])
theorem gR_9_2 (F : Fix z) {f : Nat → Rs} : gfR (em V J z) 2 2 9 f = f 17 := (gfR_e (s_9 F)).trans (by rw [r_9_2 F])
theorem gR_9_3 (F : Fix z) {f : Nat → Rs} : gfR (em V J z) 2 3 9 f = f 18 := (gfR_e (s_9 F)).trans (by rw [r_9_3 F])
theorem gR_9_4 (F : Fix z) {f : Nat → Rs} : gfR (em V J z) 2 4 9 f = f 19 := (gfR_e (s_9 F)).trans (by rw [r_9_4 F])
theorem gR_9_5 (F : Fix z) {f : Nat → Rs} : gfR (em V J z) 2 5 9 f = f 20 := (gfR_e (s_9 F)).trans (by rw [r_9_5 F])
theorem gR_9_6 (F : Fix z) {f : Nat → Rs} : gfR (em V J z) 2 6 9 f = f 21 := (gfR_e (s_9 F)).trans (by rw [r_9_6 F])
theorem gR_9_7 (F : Fix z) {f : Nat → Rs} : gfR (em V J z) 2 7 9 f = f 24 := (gfR_e (s_9 F)).trans (by rw [r_9_7 F])
theorem gR_9_8 (F : Fix z) {f : Nat → Rs} : gfR (em V J z) 2 8 9 f = f 27 := (gfR_e (s_9 F)).trans (by rw [r_9_8 F])
theorem gR_21_0 (F : Fix z) {f : Nat → Rs} : gfR (em V J z) 3 0 21 f = f 22 := (gfR_e (s_21 F)).trans (by rw [r_21_0 F])
theorem gR_21_1 (F : Fix z) {f : Nat → Rs} : gfR (em V J z) 3 1 21 f = f 23 := (gfR_e (s_21 F)).trans (by rw [r_21_1 F])
theorem gR_24_0 (F : Fix z) {f : Nat → Rs} : gfR (em V J z) 3 0 24 f = f 25 := (gfR_e (s_24 F)).trans (by rw [r_24_0 F])
theorem gR_24_1 (F : Fix z) {f : Nat → Rs} : gfR (em V J z) 3 1 24 f = f 26 := (gfR_e (s_24 F)).trans (by rw [r_24_1 F])
theorem gR_27_0 (F : Fix z) {f : Nat → Rs} : gfR (em V J z) 3 0 27 f = f 28 := (gfR_e (s_27 F)).trans (by rw [r_27_0 F])
theorem gR_27_1 (F : Fix z) {f : Nat → Rs} : gfR (em V J z) 3 1 27 f = f 29 := (gfR_e (s_27 F)).trans (by rw [r_27_1 F])
theorem gR_210_0 (F : Fix z) {f : Nat → Rs} : gfR (em V J z) 2 0 210 f = f 211 := (gfR_e (s_210 F)).trans (by rw [r_210_0 F])
theorem gR_210_1 (F : Fix z) {f : Nat → Rs} : gfR (em V J z) 2 1 210 f = f 217 := (gfR_e (s_210 F)).trans (by rw [r_210_1 F])
theorem gR_210_2 (F : Fix z) {f : Nat → Rs} : gfR (em V J z) 2 2 210 f = f 218 := (gfR_e (s_210 F)).trans (by rw [r_210_2 F])
theorem gR_210_3 (F : Fix z) {f : Nat → Rs} : gfR (em V J z) 2 3 210 f = f 219 := (gfR_e (s_210 F)).trans (by rw [r_210_3 F])
theorem gR_210_4 (F : Fix z) {f : Nat → Rs} : gfR (em V J z) 2 4 210 f = f 220 := (gfR_e (s_210 F)).trans (by rw [r_210_4 F])
theorem gR_210_5 (F : Fix z) {f : Nat → Rs} : gfR (em V J z) 2 5 210 f = f 221 := (gfR_e (s_210 F)).trans (by rw [r_210_5 F])
theorem gR_210_6 (F : Fix z) {f : Nat → Rs} : gfR (em V J z) 2 6 210 f = f 222 := (gfR_e (s_210 F)).trans (by rw [r_210_6 F])
theorem gR_210_7 (F : Fix z) {f : Nat → Rs} : gfR (em V J z) 2 7 210 f = f 225 := (gfR_e (s_210 F)).trans (by rw [r_210_7 F])
theorem gR_210_8 (F : Fix z) {f : Nat → Rs} : gfR (em V J z) 2 8 210 f = f 228 := (gfR_e (s_210 F)).trans (by rw [r_210_8 F])
theorem gR_222_0 (F : Fix z) {f : Nat → Rs} : gfR (em V J z) 3 0 222 f = f 223 := (gfR_e (s_222 F)).trans (by rw [r_222_0 F])
theorem gR_222_1 (F : Fix z) {f : Nat → Rs} : gfR (em V J z) 3 1 222 f = f 224 := (gfR_e (s_222 F)).trans (by rw [r_222_1 F])
theorem gR_225_0 (F : Fix z) {f : Nat → Rs} : gfR (em V J z) 3 0 225 f = f 226 := (gfR_e (s_225 F)).trans (by rw [r_225_0 F])
theorem gR_225_1 (F : Fix z) {f : Nat → Rs} : gfR (em V J z) 3 1 225 f = f 227 := (gfR_e (s_225 F)).trans (by rw [r_225_1 F])
theorem gR_228_0 (F : Fix z) {f : Nat → Rs} : gfR (em V J z) 3 0 228 f = f 229 := (gfR_e (s_228 F)).trans (by rw [r_228_0 F])
theorem gR_228_1 (F : Fix z) {f : Nat → Rs} : gfR (em V J z) 3 1 228 f = f 230 := (gfR_e (s_228 F)).trans (by rw [r_228_1 F])
theorem gR_417_0 (F : Fix z) {f : Nat → Rs} : gfR (em V J z) 0 0 417 f = f 418 := (gfR_e (s_417 F)).trans (by rw [r_417_0 F])
theorem gR_419_0 (F : Fix z) {f : Nat → Rs} : gfR (em V J z) 8 0 419 f = f 420 := (gfR_e (s_419 F)).trans (by rw [r_419_0 F])
theorem gR_419_2 (F : Fix z) {f : Nat → Rs} : gfR (em V J z) 8 2 419 f = f 421 := (gfR_e (s_419 F)).trans (by rw [r_419_2 F])
theorem gR_419_3 (F : Fix z) {f : Nat → Rs} : gfR (em V J z) 8 3 419 f = f 422 := (gfR_e (s_419 F)).trans (by rw [r_419_3 F])
theorem gR_419_4 (F : Fix z) {f : Nat → Rs} : gfR (em V J z) 8 4 419 f = f 423 := (gfR_e (s_419 F)).trans (by rw [r_419_4 F])
theorem gR_424_0 (F : Fix z) {f : Nat → Rs} : gfR (em V J z) 4 0 424 f = f 419 := (gfR_e (s_424 F)).trans (by rw [r_424_0 F])
theorem gR_424_1 (F : Fix z) {f : Nat → Rs} : gfR (em V J z) 4 1 424 f = f 425 := (gfR_e (s_424 F)).trans (by rw [r_424_1 F])
theorem gR_424_2 (F : Fix z) {f : Nat → Rs} : gfR (em V J z) 4 2 424 f = f 426 := (gfR_e (s_424 F)).trans (by rw [r_424_2 F])
theorem gR_427_0 (F : Fix z) {f : Nat → Rs} : gfR (em V J z) 5 0 427 f = f 428 := (gfR_e (s_427 F)).trans (by rw [r_427_0 F])
theorem gR_427_1 (F : Fix z) {f : Nat → Rs} : gfR (em V J z) 5 1 427 f = f 429 := (gfR_e (s_427 F)).trans (by rw [r_427_1 F])
theorem gR_431_0 (F : Fix z) {f : Nat → Rs} : gfR (em V J z) 6 0 431 f = f 432 := (gfR_e (s_431 F)).trans (by rw [r_431_0 F])
theorem gR_431_1 (F : Fix z) {f : Nat → Rs} : gfR (em V J z) 6 1 431 f = f 433 := (gfR_e (s_431 F)).trans (by rw [r_431_1 F])
theorem gR_431_2 (F : Fix z) {f : Nat → Rs} : gfR (em V J z) 6 2 431 f = f 434 := (gfR_e (s_431 F)).trans (by rw [r_431_2 F])
theorem gR_435_0 (F : Fix z) {f : Nat → Rs} : gfR (em V J z) 11 0 435 f = f 436 := (gfR_e (s_435 F)).trans (by rw [r_435_0 F])
theorem gR_435_1 (F : Fix z) {f : Nat → Rs} : gfR (em V J z) 11 1 435 f = f 437 := (gfR_e (s_435 F)).trans (by rw [r_435_1 F])
theorem gR_435_2 (F : Fix z) {f : Nat → Rs} : gfR (em V J z) 11 2 435 f = f 438 := (gfR_e (s_435 F)).trans (by rw [r_435_2 F])
theorem gR_435_3 (F : Fix z) {f : Nat → Rs} : gfR (em V J z) 11 3 435 f = f 439 := (gfR_e (s_435 F)).trans (by rw [r_435_3 F])
theorem gR_435_15 (F : Fix z) {f : Nat → Rs} : gfR (em V J z) 11 15 435 f = f 440 := (gfR_e (s_435 F)).trans (by rw [r_435_15 F])
theorem gR_435_20 (F : Fix z) {f : Nat → Rs} : gfR (em V J z) 11 20 435 f = f 441 := (gfR_e (s_435 F)).trans (by rw [r_435_20 F])
theorem gR_435_21 (F : Fix z) {f : Nat → Rs} : gfR (em V J z) 11 21 435 f = f 442 := (gfR_e (s_435 F)).trans (by rw [r_435_21 F])
theorem gR_435_22 (F : Fix z) {f : Nat → Rs} : gfR (em V J z) 11 22 435 f = f 443 := (gfR_e (s_435 F)).trans (by rw [r_435_22 F])
theorem gR_435_25 (F : Fix z) {f : Nat → Rs} : gfR (em V J z) 11 25 435 f = f 444 := (gfR_e (s_435 F)).trans (by rw [r_435_25 F])
theorem gR_435_26 (F : Fix z) {f : Nat → Rs} : gfR (em V J z) 11 26 435 f = f 445 := (gfR_e (s_435 F)).trans (by rw [r_435_26 F])
theorem gR_435_27 (F : Fix z) {f : Nat → Rs} : gfR (em V J z) 11 27 435 f = f 446 := (gfR_e (s_435 F)).trans (by rw [r_435_27 F])
theorem gR_435_31 (F : Fix z) {f : Nat → Rs} : gfR (em V J z) 11 31 435 f = f 447 := (gfR_e (s_435 F)).trans (by rw [r_435_31 F])
theorem gR_435_36 (F : Fix z) {f : Nat → Rs} : gfR (em V J z) 11 36 435 f = f 448 := (gfR_e (s_435 F)).trans (by rw [r_435_36 F])
theorem gR_435_37 (F : Fix z) {f : Nat → Rs} : gfR (em V J z) 11 37 435 f = f 449 := (gfR_e (s_435 F)).trans (by rw [r_435_37 F])
theorem gR_435_38 (F : Fix z) {f : Nat → Rs} : gfR (em V J z) 11 38 435 f = f 450 := (gfR_e (s_435 F)).trans (by rw [r_435_38 F])
theorem gd_8 (F : Fix z) {r : Rs} : grd (Nat.beq (mS (em V J z) 8).1 26) r = r := grd_z (s_8 F)
theorem gd_9 (F : Fix z) {r : Rs} : grd (Nat.beq (mS (em V J z) 9).1 18) r = r := grd_z (s_9 F)
theorem gd_21 (F : Fix z) {r : Rs} : grd (Nat.beq (mS (em V J z) 21).1 19) r = r := grd_z (s_21 F)
theorem gd_24 (F : Fix z) {r : Rs} : grd (Nat.beq (mS (em V J z) 24).1 19) r = r := grd_z (s_24 F)
theorem gd_27 (F : Fix z) {r : Rs} : grd (Nat.beq (mS (em V J z) 27).1 19) r = r := grd_z (s_27 F)
theorem gd_210 (F : Fix z) {r : Rs} : grd (Nat.beq (mS (em V J z) 210).1 18) r = r := grd_z (s_210 F)
theorem gd_222 (F : Fix z) {r : Rs} : grd (Nat.beq (mS (em V J z) 222).1 19) r = r := grd_z (s_222 F)
theorem gd_225 (F : Fix z) {r : Rs} : grd (Nat.beq (mS (em V J z) 225).1 19) r = r := grd_z (s_225 F)
theorem gd_228 (F : Fix z) {r : Rs} : grd (Nat.beq (mS (em V J z) 228).1 19) r = r := grd_z (s_228 F)
theorem gd_419 (F : Fix z) {r : Rs} : grd (Nat.beq (mS (em V J z) 419).1 24) r = r := grd_z (s_419 F)
theorem gd_424 (F : Fix z) {r : Rs} : grd (Nat.beq (mS (em V J z) 424).1 20) r = r := grd_z (s_424 F)
theorem gd_427 (F : Fix z) {r : Rs} : grd (Nat.beq (mS (em V J z) 427).1 21) r = r := grd_z (s_427 F)
theorem gd_430 (F : Fix z) {r : Rs} : grd (Nat.beq (mS (em V J z) 430).1 17) r = r := grd_z (s_430 F)
theorem gd_431 (F : Fix z) {r : Rs} : grd (Nat.beq (mS (em V J z) 431).1 22) r = r := grd_z (s_431 F)
theorem gd_435 (F : Fix z) {r : Rs} : grd (Nat.beq (mS (em V J z) 435).1 27) r = r := grd_z (s_435 F)
theorem gd_417 (F : Fix z) {r : Rs} : grd (Nat.beq (mS (em V J z) 417).1 16) r = r := grd_z (s_417 F)
theorem lI_18 (F : Fix z) {i : Int} {f : Int32 → Rs} (h : 0 ≤ i ∧ i < 36) : ldI (em V J z) 18 (iv i) f = f (iv (V 18 i)) := ldI_e (s_18 F) h (by decide)
theorem sI_18 (F : Fix z) {i x : Int} {f : Mem → Rs} (h : 0 ≤ i ∧ i < 36) : stI (em V J z) 18 (iv i) (iv x) f = f (em (sv V 18 i x) J z) := stI_e (s_18 F) h (by decide)
theorem nI_18 (F : Fix z) {f : Int32 → Rs} : alN (em V J z) 18 f = f (iv 36) := alN_e (s_18 F) rfl
theorem lI_19 (F : Fix z) {i : Int} {f : Int32 → Rs} (h : 0 ≤ i ∧ i < 36) : ldI (em V J z) 19 (iv i) f = f (iv (V 19 i)) := ldI_e (s_19 F) h (by decide)
theorem sI_19 (F : Fix z) {i x : Int} {f : Mem → Rs} (h : 0 ≤ i ∧ i < 36) : stI (em V J z) 19 (iv i) (iv x) f = f (em (sv V 19 i x) J z) := stI_e (s_19 F) h (by decide)
theorem nI_19 (F : Fix z) {f : Int32 → Rs} : alN (em V J z) 19 f = f (iv 36) := alN_e (s_19 F) rfl
theorem lI_20 (F : Fix z) {i : Int} {f : Int32 → Rs} (h : 0 ≤ i ∧ i < 8) : ldI (em V J z) 20 (iv i) f = f (iv (V 20 i)) := ldI_e (s_20 F) h (by decide)
theorem sI_20 (F : Fix z) {i x : Int} {f : Mem → Rs} (h : 0 ≤ i ∧ i < 8) : stI (em V J z) 20 (iv i) (iv x) f = f (em (sv V 20 i x) J z) := stI_e (s_20 F) h (by decide)
theorem nI_20 (F : Fix z) {f : Int32 → Rs} : alN (em V J z) 20 f = f (iv 8) := alN_e (s_20 F) rfl
theorem lI_22 (F : Fix z) {i : Int} {f : Int32 → Rs} (h : 0 ≤ i ∧ i < 6) : ldI (em V J z) 22 (iv i) f = f (iv (V 22 i)) := ldI_e (s_22 F) h (by decide)
theorem sI_22 (F : Fix z) {i x : Int} {f : Mem → Rs} (h : 0 ≤ i ∧ i < 6) : stI (em V J z) 22 (iv i) (iv x) f = f (em (sv V 22 i x) J z) := stI_e (s_22 F) h (by decide)
theorem nI_22 (F : Fix z) {f : Int32 → Rs} : alN (em V J z) 22 f = f (iv 6) := alN_e (s_22 F) rfl
theorem lI_23 (F : Fix z) {i : Int} {f : Int32 → Rs} (h : 0 ≤ i ∧ i < 6) : ldI (em V J z) 23 (iv i) f = f (iv (V 23 i)) := ldI_e (s_23 F) h (by decide)
theorem sI_23 (F : Fix z) {i x : Int} {f : Mem → Rs} (h : 0 ≤ i ∧ i < 6) : stI (em V J z) 23 (iv i) (iv x) f = f (em (sv V 23 i x) J z) := stI_e (s_23 F) h (by decide)
theorem nI_23 (F : Fix z) {f : Int32 → Rs} : alN (em V J z) 23 f = f (iv 6) := alN_e (s_23 F) rfl
theorem lI_25 (F : Fix z) {i : Int} {f : Int32 → Rs} (h : 0 ≤ i ∧ i < 8) : ldI (em V J z) 25 (iv i) f = f (iv (V 25 i)) := ldI_e (s_25 F) h (by decide)
theorem sI_25 (F : Fix z) {i x : Int} {f : Mem → Rs} (h : 0 ≤ i ∧ i < 8) : stI (em V J z) 25 (iv i) (iv x) f = f (em (sv V 25 i x) J z) := stI_e (s_25 F) h (by decide)
theorem nI_25 (F : Fix z) {f : Int32 → Rs} : alN (em V J z) 25 f = f (iv 8) := alN_e (s_25 F) rfl
theorem lI_26 (F : Fix z) {i : Int} {f : Int32 → Rs} (h : 0 ≤ i ∧ i < 8) : ldI (em V J z) 26 (iv i) f = f (iv (V 26 i)) := ldI_e (s_26 F) h (by decide)
theorem sI_26 (F : Fix z) {i x : Int} {f : Mem → Rs} (h : 0 ≤ i ∧ i < 8) : stI (em V J z) 26 (iv i) (iv x) f = f (em (sv V 26 i x) J z) := stI_e (s_26 F) h (by decide)
theorem nI_26 (F : Fix z) {f : Int32 → Rs} : alN (em V J z) 26 f = f (iv 8) := alN_e (s_26 F) rfl
theorem lI_28 (F : Fix z) {i : Int} {f : Int32 → Rs} (h : 0 ≤ i ∧ i < 8) : ldI (em V J z) 28 (iv i) f = f (iv (V 28 i)) := ldI_e (s_28 F) h (by decide)
theorem sI_28 (F : Fix z) {i x : Int} {f : Mem → Rs} (h : 0 ≤ i ∧ i < 8) : stI (em V J z) 28 (iv i) (iv x) f = f (em (sv V 28 i x) J z) := stI_e (s_28 F) h (by decide)
theorem nI_28 (F : Fix z) {f : Int32 → Rs} : alN (em V J z) 28 f = f (iv 8) := alN_e (s_28 F) rfl
theorem lI_29 (F : Fix z) {i : Int} {f : Int32 → Rs} (h : 0 ≤ i ∧ i < 8) : ldI (em V J z) 29 (iv i) f = f (iv (V 29 i)) := ldI_e (s_29 F) h (by decide)
theorem sI_29 (F : Fix z) {i x : Int} {f : Mem → Rs} (h : 0 ≤ i ∧ i < 8) : stI (em V J z) 29 (iv i) (iv x) f = f (em (sv V 29 i x) J z) := stI_e (s_29 F) h (by decide)
theorem nI_29 (F : Fix z) {f : Int32 → Rs} : alN (em V J z) 29 f = f (iv 8) := alN_e (s_29 F) rfl
theorem lI_219 (F : Fix z) {i : Int} {f : Int32 → Rs} (h : 0 ≤ i ∧ i < 36) : ldI (em V J z) 219 (iv i) f = f (iv (V 219 i)) := ldI_e (s_219 F) h (by decide)
theorem sI_219 (F : Fix z) {i x : Int} {f : Mem → Rs} (h : 0 ≤ i ∧ i < 36) : stI (em V J z) 219 (iv i) (iv x) f = f (em (sv V 219 i x) J z) := stI_e (s_219 F) h (by decide)
theorem nI_219 (F : Fix z) {f : Int32 → Rs} : alN (em V J z) 219 f = f (iv 36) := alN_e (s_219 F) rfl
theorem lI_220 (F : Fix z) {i : Int} {f : Int32 → Rs} (h : 0 ≤ i ∧ i < 36) : ldI (em V J z) 220 (iv i) f = f (iv (V 220 i)) := ldI_e (s_220 F) h (by decide)
theorem sI_220 (F : Fix z) {i x : Int} {f : Mem → Rs} (h : 0 ≤ i ∧ i < 36) : stI (em V J z) 220 (iv i) (iv x) f = f (em (sv V 220 i x) J z) := stI_e (s_220 F) h (by decide)
theorem nI_220 (F : Fix z) {f : Int32 → Rs} : alN (em V J z) 220 f = f (iv 36) := alN_e (s_220 F) rfl
theorem lI_221 (F : Fix z) {i : Int} {f : Int32 → Rs} (h : 0 ≤ i ∧ i < 8) : ldI (em V J z) 221 (iv i) f = f (iv (V 221 i)) := ldI_e (s_221 F) h (by decide)
theorem sI_221 (F : Fix z) {i x : Int} {f : Mem → Rs} (h : 0 ≤ i ∧ i < 8) : stI (em V J z) 221 (iv i) (iv x) f = f (em (sv V 221 i x) J z) := stI_e (s_221 F) h (by decide)
theorem nI_221 (F : Fix z) {f : Int32 → Rs} : alN (em V J z) 221 f = f (iv 8) := alN_e (s_221 F) rfl
theorem lI_223 (F : Fix z) {i : Int} {f : Int32 → Rs} (h : 0 ≤ i ∧ i < 6) : ldI (em V J z) 223 (iv i) f = f (iv (V 223 i)) := ldI_e (s_223 F) h (by decide)
theorem sI_223 (F : Fix z) {i x : Int} {f : Mem → Rs} (h : 0 ≤ i ∧ i < 6) : stI (em V J z) 223 (iv i) (iv x) f = f (em (sv V 223 i x) J z) := stI_e (s_223 F) h (by decide)
theorem nI_223 (F : Fix z) {f : Int32 → Rs} : alN (em V J z) 223 f = f (iv 6) := alN_e (s_223 F) rfl
theorem lI_224 (F : Fix z) {i : Int} {f : Int32 → Rs} (h : 0 ≤ i ∧ i < 6) : ldI (em V J z) 224 (iv i) f = f (iv (V 224 i)) := ldI_e (s_224 F) h (by decide)
theorem sI_224 (F : Fix z) {i x : Int} {f : Mem → Rs} (h : 0 ≤ i ∧ i < 6) : stI (em V J z) 224 (iv i) (iv x) f = f (em (sv V 224 i x) J z) := stI_e (s_224 F) h (by decide)
theorem nI_224 (F : Fix z) {f : Int32 → Rs} : alN (em V J z) 224 f = f (iv 6) := alN_e (s_224 F) rfl
theorem lI_226 (F : Fix z) {i : Int} {f : Int32 → Rs} (h : 0 ≤ i ∧ i < 8) : ldI (em V J z) 226 (iv i) f = f (iv (V 226 i)) := ldI_e (s_226 F) h (by decide)
theorem sI_226 (F : Fix z) {i x : Int} {f : Mem → Rs} (h : 0 ≤ i ∧ i < 8) : stI (em V J z) 226 (iv i) (iv x) f = f (em (sv V 226 i x) J z) := stI_e (s_226 F) h (by decide)
theorem nI_226 (F : Fix z) {f : Int32 → Rs} : alN (em V J z) 226 f = f (iv 8) := alN_e (s_226 F) rfl
theorem lI_227 (F : Fix z) {i : Int} {f : Int32 → Rs} (h : 0 ≤ i ∧ i < 8) : ldI (em V J z) 227 (iv i) f = f (iv (V 227 i)) := ldI_e (s_227 F) h (by decide)
theorem sI_227 (F : Fix z) {i x : Int} {f : Mem → Rs} (h : 0 ≤ i ∧ i < 8) : stI (em V J z) 227 (iv i) (iv x) f = f (em (sv V 227 i x) J z) := stI_e (s_227 F) h (by decide)
theorem nI_227 (F : Fix z) {f : Int32 → Rs} : alN (em V J z) 227 f = f (iv 8) := alN_e (s_227 F) rfl
theorem lI_229 (F : Fix z) {i : Int} {f : Int32 → Rs} (h : 0 ≤ i ∧ i < 8) : ldI (em V J z) 229 (iv i) f = f (iv (V 229 i)) := ldI_e (s_229 F) h (by decide)
theorem sI_229 (F : Fix z) {i x : Int} {f : Mem → Rs} (h : 0 ≤ i ∧ i < 8) : stI (em V J z) 229 (iv i) (iv x) f = f (em (sv V 229 i x) J z) := stI_e (s_229 F) h (by decide)
theorem nI_229 (F : Fix z) {f : Int32 → Rs} : alN (em V J z) 229 f = f (iv 8) := alN_e (s_229 F) rfl
theorem lI_230 (F : Fix z) {i : Int} {f : Int32 → Rs} (h : 0 ≤ i ∧ i < 8) : ldI (em V J z) 230 (iv i) f = f (iv (V 230 i)) := ldI_e (s_230 F) h (by decide)
theorem sI_230 (F : Fix z) {i x : Int} {f : Mem → Rs} (h : 0 ≤ i ∧ i < 8) : stI (em V J z) 230 (iv i) (iv x) f = f (em (sv V 230 i x) J z) := stI_e (s_230 F) h (by decide)
theorem nI_230 (F : Fix z) {f : Int32 → Rs} : alN (em V J z) 230 f = f (iv 8) := alN_e (s_230 F) rfl
theorem lI_418 (F : Fix z) {i : Int} {f : Int32 → Rs} (h : 0 ≤ i ∧ i < 300) : ldI (em V J z) 418 (iv i) f = f (iv (V 418 i)) := ldI_e (s_418 F) h (by decide)
theorem sI_418 (F : Fix z) {i x : Int} {f : Mem → Rs} (h : 0 ≤ i ∧ i < 300) : stI (em V J z) 418 (iv i) (iv x) f = f (em (sv V 418 i x) J z) := stI_e (s_418 F) h (by decide)
theorem nI_418 (F : Fix z) {f : Int32 → Rs} : alN (em V J z) 418 f = f (iv 300) := alN_e (s_418 F) rfl
theorem lI_420 (F : Fix z) {i : Int} {f : Int32 → Rs} (h : 0 ≤ i ∧ i < 300) : ldI (em V J z) 420 (iv i) f = f (iv (V 420 i)) := ldI_e (s_420 F) h (by decide)
theorem sI_420 (F : Fix z) {i x : Int} {f : Mem → Rs} (h : 0 ≤ i ∧ i < 300) : stI (em V J z) 420 (iv i) (iv x) f = f (em (sv V 420 i x) J z) := stI_e (s_420 F) h (by decide)
theorem nI_420 (F : Fix z) {f : Int32 → Rs} : alN (em V J z) 420 f = f (iv 300) := alN_e (s_420 F) rfl
theorem lI_421 (F : Fix z) {i : Int} {f : Int32 → Rs} (h : 0 ≤ i ∧ i < 301) : ldI (em V J z) 421 (iv i) f = f (iv (V 421 i)) := ldI_e (s_421 F) h (by decide)
theorem sI_421 (F : Fix z) {i x : Int} {f : Mem → Rs} (h : 0 ≤ i ∧ i < 301) : stI (em V J z) 421 (iv i) (iv x) f = f (em (sv V 421 i x) J z) := stI_e (s_421 F) h (by decide)
theorem nI_421 (F : Fix z) {f : Int32 → Rs} : alN (em V J z) 421 f = f (iv 301) := alN_e (s_421 F) rfl
theorem lI_422 (F : Fix z) {i : Int} {f : Int32 → Rs} (h : 0 ≤ i ∧ i < 301) : ldI (em V J z) 422 (iv i) f = f (iv (V 422 i)) := ldI_e (s_422 F) h (by decide)
theorem sI_422 (F : Fix z) {i x : Int} {f : Mem → Rs} (h : 0 ≤ i ∧ i < 301) : stI (em V J z) 422 (iv i) (iv x) f = f (em (sv V 422 i x) J z) := stI_e (s_422 F) h (by decide)
theorem nI_422 (F : Fix z) {f : Int32 → Rs} : alN (em V J z) 422 f = f (iv 301) := alN_e (s_422 F) rfl
theorem lI_423 (F : Fix z) {i : Int} {f : Int32 → Rs} (h : 0 ≤ i ∧ i < 301) : ldI (em V J z) 423 (iv i) f = f (iv (V 423 i)) := ldI_e (s_423 F) h (by decide)
theorem sI_423 (F : Fix z) {i x : Int} {f : Mem → Rs} (h : 0 ≤ i ∧ i < 301) : stI (em V J z) 423 (iv i) (iv x) f = f (em (sv V 423 i x) J z) := stI_e (s_423 F) h (by decide)
theorem nI_423 (F : Fix z) {f : Int32 → Rs} : alN (em V J z) 423 f = f (iv 301) := alN_e (s_423 F) rfl
theorem lI_425 (F : Fix z) {i : Int} {f : Int32 → Rs} (h : 0 ≤ i ∧ i < 72) : ldI (em V J z) 425 (iv i) f = f (iv (V 425 i)) := ldI_e (s_425 F) h (by decide)
theorem sI_425 (F : Fix z) {i x : Int} {f : Mem → Rs} (h : 0 ≤ i ∧ i < 72) : stI (em V J z) 425 (iv i) (iv x) f = f (em (sv V 425 i x) J z) := stI_e (s_425 F) h (by decide)
theorem nI_425 (F : Fix z) {f : Int32 → Rs} : alN (em V J z) 425 f = f (iv 72) := alN_e (s_425 F) rfl
theorem lI_426 (F : Fix z) {i : Int} {f : Int32 → Rs} (h : 0 ≤ i ∧ i < 301) : ldI (em V J z) 426 (iv i) f = f (iv (V 426 i)) := ldI_e (s_426 F) h (by decide)
theorem sI_426 (F : Fix z) {i x : Int} {f : Mem → Rs} (h : 0 ≤ i ∧ i < 301) : stI (em V J z) 426 (iv i) (iv x) f = f (em (sv V 426 i x) J z) := stI_e (s_426 F) h (by decide)
theorem nI_426 (F : Fix z) {f : Int32 → Rs} : alN (em V J z) 426 f = f (iv 301) := alN_e (s_426 F) rfl
theorem lI_428 (F : Fix z) {i : Int} {f : Int32 → Rs} (h : 0 ≤ i ∧ i < 6) : ldI (em V J z) 428 (iv i) f = f (iv (V 428 i)) := ldI_e (s_428 F) h (by decide)
theorem sI_428 (F : Fix z) {i x : Int} {f : Mem → Rs} (h : 0 ≤ i ∧ i < 6) : stI (em V J z) 428 (iv i) (iv x) f = f (em (sv V 428 i x) J z) := stI_e (s_428 F) h (by decide)
theorem nI_428 (F : Fix z) {f : Int32 → Rs} : alN (em V J z) 428 f = f (iv 6) := alN_e (s_428 F) rfl
theorem lI_429 (F : Fix z) {i : Int} {f : Int32 → Rs} (h : 0 ≤ i ∧ i < 6) : ldI (em V J z) 429 (iv i) f = f (iv (V 429 i)) := ldI_e (s_429 F) h (by decide)
theorem sI_429 (F : Fix z) {i x : Int} {f : Mem → Rs} (h : 0 ≤ i ∧ i < 6) : stI (em V J z) 429 (iv i) (iv x) f = f (em (sv V 429 i x) J z) := stI_e (s_429 F) h (by decide)
theorem nI_429 (F : Fix z) {f : Int32 → Rs} : alN (em V J z) 429 f = f (iv 6) := alN_e (s_429 F) rfl
theorem lI_432 (F : Fix z) {i : Int} {f : Int32 → Rs} (h : 0 ≤ i ∧ i < 125) : ldI (em V J z) 432 (iv i) f = f (iv (V 432 i)) := ldI_e (s_432 F) h (by decide)
theorem sI_432 (F : Fix z) {i x : Int} {f : Mem → Rs} (h : 0 ≤ i ∧ i < 125) : stI (em V J z) 432 (iv i) (iv x) f = f (em (sv V 432 i x) J z) := stI_e (s_432 F) h (by decide)
theorem nI_432 (F : Fix z) {f : Int32 → Rs} : alN (em V J z) 432 f = f (iv 125) := alN_e (s_432 F) rfl
theorem lI_433 (F : Fix z) {i : Int} {f : Int32 → Rs} (h : 0 ≤ i ∧ i < 125) : ldI (em V J z) 433 (iv i) f = f (iv (V 433 i)) := ldI_e (s_433 F) h (by decide)
theorem sI_433 (F : Fix z) {i x : Int} {f : Mem → Rs} (h : 0 ≤ i ∧ i < 125) : stI (em V J z) 433 (iv i) (iv x) f = f (em (sv V 433 i x) J z) := stI_e (s_433 F) h (by decide)
theorem nI_433 (F : Fix z) {f : Int32 → Rs} : alN (em V J z) 433 f = f (iv 125) := alN_e (s_433 F) rfl
theorem lI_434 (F : Fix z) {i : Int} {f : Int32 → Rs} (h : 0 ≤ i ∧ i < 31) : ldI (em V J z) 434 (iv i) f = f (iv (V 434 i)) := ldI_e (s_434 F) h (by decide)
theorem sI_434 (F : Fix z) {i x : Int} {f : Mem → Rs} (h : 0 ≤ i ∧ i < 31) : stI (em V J z) 434 (iv i) (iv x) f = f (em (sv V 434 i x) J z) := stI_e (s_434 F) h (by decide)
theorem nI_434 (F : Fix z) {f : Int32 → Rs} : alN (em V J z) 434 f = f (iv 31) := alN_e (s_434 F) rfl
theorem lI_436 (F : Fix z) {i : Int} {f : Int32 → Rs} (h : 0 ≤ i ∧ i < 1450) : ldI (em V J z) 436 (iv i) f = f (iv (V 436 i)) := ldI_e (s_436 F) h (by decide)
theorem sI_436 (F : Fix z) {i x : Int} {f : Mem → Rs} (h : 0 ≤ i ∧ i < 1450) : stI (em V J z) 436 (iv i) (iv x) f = f (em (sv V 436 i x) J z) := stI_e (s_436 F) h (by decide)
theorem nI_436 (F : Fix z) {f : Int32 → Rs} : alN (em V J z) 436 f = f (iv 1450) := alN_e (s_436 F) rfl
theorem lI_437 (F : Fix z) {i : Int} {f : Int32 → Rs} (h : 0 ≤ i ∧ i < 1450) : ldI (em V J z) 437 (iv i) f = f (iv (V 437 i)) := ldI_e (s_437 F) h (by decide)
theorem sI_437 (F : Fix z) {i x : Int} {f : Mem → Rs} (h : 0 ≤ i ∧ i < 1450) : stI (em V J z) 437 (iv i) (iv x) f = f (em (sv V 437 i x) J z) := stI_e (s_437 F) h (by decide)
theorem nI_437 (F : Fix z) {f : Int32 → Rs} : alN (em V J z) 437 f = f (iv 1450) := alN_e (s_437 F) rfl
theorem lI_438 (F : Fix z) {i : Int} {f : Int32 → Rs} (h : 0 ≤ i ∧ i < 2724) : ldI (em V J z) 438 (iv i) f = f (iv (V 438 i)) := ldI_e (s_438 F) h (by decide)
theorem sI_438 (F : Fix z) {i x : Int} {f : Mem → Rs} (h : 0 ≤ i ∧ i < 2724) : stI (em V J z) 438 (iv i) (iv x) f = f (em (sv V 438 i x) J z) := stI_e (s_438 F) h (by decide)
theorem nI_438 (F : Fix z) {f : Int32 → Rs} : alN (em V J z) 438 f = f (iv 2724) := alN_e (s_438 F) rfl
theorem lI_439 (F : Fix z) {i : Int} {f : Int32 → Rs} (h : 0 ≤ i ∧ i < 300) : ldI (em V J z) 439 (iv i) f = f (iv (V 439 i)) := ldI_e (s_439 F) h (by decide)
theorem sI_439 (F : Fix z) {i x : Int} {f : Mem → Rs} (h : 0 ≤ i ∧ i < 300) : stI (em V J z) 439 (iv i) (iv x) f = f (em (sv V 439 i x) J z) := stI_e (s_439 F) h (by decide)
theorem nI_439 (F : Fix z) {f : Int32 → Rs} : alN (em V J z) 439 f = f (iv 300) := alN_e (s_439 F) rfl
theorem lI_440 (F : Fix z) {i : Int} {f : Int32 → Rs} (h : 0 ≤ i ∧ i < 160) : ldI (em V J z) 440 (iv i) f = f (iv (V 440 i)) := ldI_e (s_440 F) h (by decide)
theorem sI_440 (F : Fix z) {i x : Int} {f : Mem → Rs} (h : 0 ≤ i ∧ i < 160) : stI (em V J z) 440 (iv i) (iv x) f = f (em (sv V 440 i x) J z) := stI_e (s_440 F) h (by decide)
theorem nI_440 (F : Fix z) {f : Int32 → Rs} : alN (em V J z) 440 f = f (iv 160) := alN_e (s_440 F) rfl
theorem lI_441 (F : Fix z) {i : Int} {f : Int32 → Rs} (h : 0 ≤ i ∧ i < 7) : ldI (em V J z) 441 (iv i) f = f (iv (V 441 i)) := ldI_e (s_441 F) h (by decide)
theorem sI_441 (F : Fix z) {i x : Int} {f : Mem → Rs} (h : 0 ≤ i ∧ i < 7) : stI (em V J z) 441 (iv i) (iv x) f = f (em (sv V 441 i x) J z) := stI_e (s_441 F) h (by decide)
theorem nI_441 (F : Fix z) {f : Int32 → Rs} : alN (em V J z) 441 f = f (iv 7) := alN_e (s_441 F) rfl
theorem lI_443 (F : Fix z) {i : Int} {f : Int32 → Rs} (h : 0 ≤ i ∧ i < 330) : ldB (em V J z) 443 (iv i) f = f (iv (V 443 i)) := ldB_e (s_443 F) h (by decide)
theorem sI_443 (F : Fix z) {i x : Int} {f : Mem → Rs} (hx : x = 0 ∨ x = 1) (h : 0 ≤ i ∧ i < 330) : stB (em V J z) 443 (iv i) (iv x) f = f (em (sv V 443 i x) J z) := stB_e (s_443 F) hx h (by decide)
theorem nI_443 (F : Fix z) {f : Int32 → Rs} : alN (em V J z) 443 f = f (iv 330) := alN_e (s_443 F) rfl
theorem lI_444 (F : Fix z) {i : Int} {f : Int32 → Rs} (h : 0 ≤ i ∧ i < 23) : ldI (em V J z) 444 (iv i) f = f (iv (V 444 i)) := ldI_e (s_444 F) h (by decide)
theorem sI_444 (F : Fix z) {i x : Int} {f : Mem → Rs} (h : 0 ≤ i ∧ i < 23) : stI (em V J z) 444 (iv i) (iv x) f = f (em (sv V 444 i x) J z) := stI_e (s_444 F) h (by decide)
theorem nI_444 (F : Fix z) {f : Int32 → Rs} : alN (em V J z) 444 f = f (iv 23) := alN_e (s_444 F) rfl
theorem lI_445 (F : Fix z) {i : Int} {f : Int32 → Rs} (h : 0 ≤ i ∧ i < 6) : ldI (em V J z) 445 (iv i) f = f (iv (V 445 i)) := ldI_e (s_445 F) h (by decide)
theorem sI_445 (F : Fix z) {i x : Int} {f : Mem → Rs} (h : 0 ≤ i ∧ i < 6) : stI (em V J z) 445 (iv i) (iv x) f = f (em (sv V 445 i x) J z) := stI_e (s_445 F) h (by decide)
theorem nI_445 (F : Fix z) {f : Int32 → Rs} : alN (em V J z) 445 f = f (iv 6) := alN_e (s_445 F) rfl
theorem lI_446 (F : Fix z) {i : Int} {f : Int32 → Rs} (h : 0 ≤ i ∧ i < 6) : ldI (em V J z) 446 (iv i) f = f (iv (V 446 i)) := ldI_e (s_446 F) h (by decide)
theorem sI_446 (F : Fix z) {i x : Int} {f : Mem → Rs} (h : 0 ≤ i ∧ i < 6) : stI (em V J z) 446 (iv i) (iv x) f = f (em (sv V 446 i x) J z) := stI_e (s_446 F) h (by decide)
theorem nI_446 (F : Fix z) {f : Int32 → Rs} : alN (em V J z) 446 f = f (iv 6) := alN_e (s_446 F) rfl
theorem lI_447 (F : Fix z) {i : Int} {f : Int32 → Rs} (h : 0 ≤ i ∧ i < 144) : ldB (em V J z) 447 (iv i) f = f (iv (V 447 i)) := ldB_e (s_447 F) h (by decide)
theorem sI_447 (F : Fix z) {i x : Int} {f : Mem → Rs} (hx : x = 0 ∨ x = 1) (h : 0 ≤ i ∧ i < 144) : stB (em V J z) 447 (iv i) (iv x) f = f (em (sv V 447 i x) J z) := stB_e (s_447 F) hx h (by decide)
theorem nI_447 (F : Fix z) {f : Int32 → Rs} : alN (em V J z) 447 f = f (iv 144) := alN_e (s_447 F) rfl
theorem lI_448 (F : Fix z) {i : Int} {f : Int32 → Rs} (h : 0 ≤ i ∧ i < 125) : ldI (em V J z) 448 (iv i) f = f (iv (V 448 i)) := ldI_e (s_448 F) h (by decide)
theorem sI_448 (F : Fix z) {i x : Int} {f : Mem → Rs} (h : 0 ≤ i ∧ i < 125) : stI (em V J z) 448 (iv i) (iv x) f = f (em (sv V 448 i x) J z) := stI_e (s_448 F) h (by decide)
theorem nI_448 (F : Fix z) {f : Int32 → Rs} : alN (em V J z) 448 f = f (iv 125) := alN_e (s_448 F) rfl
theorem lI_449 (F : Fix z) {i : Int} {f : Int32 → Rs} (h : 0 ≤ i ∧ i < 31) : ldI (em V J z) 449 (iv i) f = f (iv (V 449 i)) := ldI_e (s_449 F) h (by decide)
theorem sI_449 (F : Fix z) {i x : Int} {f : Mem → Rs} (h : 0 ≤ i ∧ i < 31) : stI (em V J z) 449 (iv i) (iv x) f = f (em (sv V 449 i x) J z) := stI_e (s_449 F) h (by decide)
theorem nI_449 (F : Fix z) {f : Int32 → Rs} : alN (em V J z) 449 f = f (iv 31) := alN_e (s_449 F) rfl
theorem lI_450 (F : Fix z) {i : Int} {f : Int32 → Rs} (h : 0 ≤ i ∧ i < 7776) : ldB (em V J z) 450 (iv i) f = f (iv (V 450 i)) := ldB_e (s_450 F) h (by decide)
theorem sI_450 (F : Fix z) {i x : Int} {f : Mem → Rs} (hx : x = 0 ∨ x = 1) (h : 0 ≤ i ∧ i < 7776) : stB (em V J z) 450 (iv i) (iv x) f = f (em (sv V 450 i x) J z) := stB_e (s_450 F) hx h (by decide)
theorem nI_450 (F : Fix z) {f : Int32 → Rs} : alN (em V J z) 450 f = f (iv 7776) := alN_e (s_450 F) rfl
theorem lJ_442 (F : Fix z) {i : Int} {f : Int64 → Rs} (h : 0 ≤ i ∧ i < 330) : ldJ (em V J z) 442 (iv i) f = f (jv (J 442 i)) := ldJ_e (s_442 F) h (by decide)
theorem sJ_442 (F : Fix z) {i x : Int} {f : Mem → Rs} (h : 0 ≤ i ∧ i < 330) : stJ (em V J z) 442 (iv i) (jv x) f = f (em V (sv J 442 i x) z) := stJ_e (s_442 F) h (by decide)
theorem rT_0 {t : Nat} (T : Tab z t) {f : Nat → Rs} : gfR (em V J z) 7 0 t f = f (t + 1) := (gfR_e T.2.1).trans (by rw [T.r0])
theorem rT_1 {t : Nat} (T : Tab z t) {f : Nat → Rs} : gfR (em V J z) 7 1 t f = f (t + 2) := (gfR_e T.2.1).trans (by rw [T.r1])
theorem rT_2 {t : Nat} (T : Tab z t) {f : Nat → Rs} : gfR (em V J z) 7 2 t f = f (t + 3) := (gfR_e T.2.1).trans (by rw [T.r2])
theorem rT_3 {t : Nat} (T : Tab z t) {f : Nat → Rs} : gfR (em V J z) 7 3 t f = f (t + 4) := (gfR_e T.2.1).trans (by rw [T.r3])
theorem rT_4 {t : Nat} (T : Tab z t) {f : Nat → Rs} : gfR (em V J z) 7 4 t f = f (t + 5) := (gfR_e T.2.1).trans (by rw [T.r4])
theorem gT_5 {t : Nat} (T : Tab z t) {f : Int32 → Rs} : gfI (em V J z) 7 5 t f = f (iv (V t 5)) := gfI_e T.2.1
theorem pT_5 {t : Nat} (T : Tab z t) {x : Int} {f : Mem → Rs} : pfI (em V J z) 7 5 t (iv x) f = f (em (sv V t 5 x) J z) := pfI_e T.2.1 T.1
theorem gT_6 {t : Nat} (T : Tab z t) {f : Int32 → Rs} : gfI (em V J z) 7 6 t f = f (iv (V t 6)) := gfI_e T.2.1
theorem pT_6 {t : Nat} (T : Tab z t) {x : Int} {f : Mem → Rs} : pfI (em V J z) 7 6 t (iv x) f = f (em (sv V t 6 x) J z) := pfI_e T.2.1 T.1
theorem gT_7 {t : Nat} (T : Tab z t) {f : Int32 → Rs} : gfI (em V J z) 7 7 t f = f (iv (V t 7)) := gfI_e T.2.1
theorem pT_7 {t : Nat} (T : Tab z t) {x : Int} {f : Mem → Rs} : pfI (em V J z) 7 7 t (iv x) f = f (em (sv V t 7 x) J z) := pfI_e T.2.1 T.1
theorem gT_8 {t : Nat} (T : Tab z t) {f : Int32 → Rs} : gfI (em V J z) 7 8 t f = f (iv (V t 8)) := gfI_e T.2.1
theorem pT_8 {t : Nat} (T : Tab z t) {x : Int} {f : Mem → Rs} : pfI (em V J z) 7 8 t (iv x) f = f (em (sv V t 8 x) J z) := pfI_e T.2.1 T.1
theorem gT_9 {t : Nat} (T : Tab z t) {f : Int32 → Rs} : gfI (em V J z) 7 9 t f = f (iv (V t 9)) := gfI_e T.2.1
theorem pT_9 {t : Nat} (T : Tab z t) {x : Int} {f : Mem → Rs} : pfI (em V J z) 7 9 t (iv x) f = f (em (sv V t 9 x) J z) := pfI_e T.2.1 T.1
theorem gdT {t : Nat} (T : Tab z t) {r : Rs} : grd (Nat.beq (mS (em V J z) t).1 23) r = r := grd_z T.2.1
theorem lT_1 {t : Nat} (T : Tab z t) {i : Int} {f : Int32 → Rs} (h : 0 ≤ i ∧ i < 6) : ldI (em V J z) (t + 1) (iv i) f = f (iv (V (t + 1) i)) := ldI_e T.s1 h (by decide)
theorem sT_1 {t : Nat} (T : Tab z t) {i x : Int} {f : Mem → Rs} (h : 0 ≤ i ∧ i < 6) : stI (em V J z) (t + 1) (iv i) (iv x) f = f (em (sv V (t + 1) i x) J z) := stI_e T.s1 h (by decide)
theorem nT_1 {t : Nat} (T : Tab z t) {f : Int32 → Rs} : alN (em V J z) (t + 1) f = f (iv 6) := alN_e T.s1 rfl
theorem lT_2 {t : Nat} (T : Tab z t) {i : Int} {f : Int32 → Rs} (h : 0 ≤ i ∧ i < 6) : ldI (em V J z) (t + 2) (iv i) f = f (iv (V (t + 2) i)) := ldI_e T.s2 h (by decide)
theorem sT_2 {t : Nat} (T : Tab z t) {i x : Int} {f : Mem → Rs} (h : 0 ≤ i ∧ i < 6) : stI (em V J z) (t + 2) (iv i) (iv x) f = f (em (sv V (t + 2) i x) J z) := stI_e T.s2 h (by decide)
theorem nT_2 {t : Nat} (T : Tab z t) {f : Int32 → Rs} : alN (em V J z) (t + 2) f = f (iv 6) := alN_e T.s2 rfl
theorem lT_3 {t : Nat} (T : Tab z t) {i : Int} {f : Int32 → Rs} (h : 0 ≤ i ∧ i < 6) : ldI (em V J z) (t + 3) (iv i) f = f (iv (V (t + 3) i)) := ldI_e T.s3 h (by decide)
theorem sT_3 {t : Nat} (T : Tab z t) {i x : Int} {f : Mem → Rs} (h : 0 ≤ i ∧ i < 6) : stI (em V J z) (t + 3) (iv i) (iv x) f = f (em (sv V (t + 3) i x) J z) := stI_e T.s3 h (by decide)
theorem nT_3 {t : Nat} (T : Tab z t) {f : Int32 → Rs} : alN (em V J z) (t + 3) f = f (iv 6) := alN_e T.s3 rfl
theorem lT_4 {t : Nat} (T : Tab z t) {i : Int} {f : Int32 → Rs} (h : 0 ≤ i ∧ i < 6) : ldI (em V J z) (t + 4) (iv i) f = f (iv (V (t + 4) i)) := ldI_e T.s4 h (by decide)
theorem sT_4 {t : Nat} (T : Tab z t) {i x : Int} {f : Mem → Rs} (h : 0 ≤ i ∧ i < 6) : stI (em V J z) (t + 4) (iv i) (iv x) f = f (em (sv V (t + 4) i x) J z) := stI_e T.s4 h (by decide)
theorem nT_4 {t : Nat} (T : Tab z t) {f : Int32 → Rs} : alN (em V J z) (t + 4) f = f (iv 6) := alN_e T.s4 rfl
theorem lT_5 {t : Nat} (T : Tab z t) {i : Int} {f : Int32 → Rs} (h : 0 ≤ i ∧ i < 25) : ldI (em V J z) (t + 5) (iv i) f = f (iv (V (t + 5) i)) := ldI_e T.s5 h (by decide)
theorem sT_5 {t : Nat} (T : Tab z t) {i x : Int} {f : Mem → Rs} (h : 0 ≤ i ∧ i < 25) : stI (em V J z) (t + 5) (iv i) (iv x) f = f (em (sv V (t + 5) i x) J z) := stI_e T.s5 h (by decide)
theorem nT_5 {t : Nat} (T : Tab z t) {f : Int32 → Rs} : alN (em V J z) (t + 5) f = f (iv 25) := alN_e T.s5 rfl
theorem il_0 : (0 : Int32) = iv 0 := rfl
theorem il_1 : (1 : Int32) = iv 1 := rfl
theorem il_2 : (2 : Int32) = iv 2 := rfl
theorem il_3 : (3 : Int32) = iv 3 := rfl
theorem il_4 : (4 : Int32) = iv 4 := rfl
theorem il_5 : (5 : Int32) = iv 5 := rfl
theorem il_6 : (6 : Int32) = iv 6 := rfl
theorem il_7 : (7 : Int32) = iv 7 := rfl
theorem il_8 : (8 : Int32) = iv 8 := rfl
theorem il_9 : (9 : Int32) = iv 9 := rfl
theorem il_10 : (10 : Int32) = iv 10 := rfl
theorem il_11 : (11 : Int32) = iv 11 := rfl
theorem il_12 : (12 : Int32) = iv 12 := rfl
theorem il_13 : (13 : Int32) = iv 13 := rfl
theorem il_14 : (14 : Int32) = iv 14 := rfl
theorem il_15 : (15 : Int32) = iv 15 := rfl
theorem il_16 : (16 : Int32) = iv 16 := rfl
theorem il_17 : (17 : Int32) = iv 17 := rfl
theorem il_18 : (18 : Int32) = iv 18 := rfl
theorem il_19 : (19 : Int32) = iv 19 := rfl
theorem il_20 : (20 : Int32) = iv 20 := rfl
theorem il_21 : (21 : Int32) = iv 21 := rfl
theorem il_22 : (22 : Int32) = iv 22 := rfl
theorem il_23 : (23 : Int32) = iv 23 := rfl
theorem il_24 : (24 : Int32) = iv 24 := rfl
theorem il_25 : (25 : Int32) = iv 25 := rfl
theorem il_26 : (26 : Int32) = iv 26 := rfl
theorem il_27 : (27 : Int32) = iv 27 := rfl
theorem il_28 : (28 : Int32) = iv 28 := rfl
theorem il_29 : (29 : Int32) = iv 29 := rfl
theorem il_30 : (30 : Int32) = iv 30 := rfl
theorem il_31 : (31 : Int32) = iv 31 := rfl
theorem il_32 : (32 : Int32) = iv 32 := rfl
theorem il_33 : (33 : Int32) = iv 33 := rfl
theorem il_34 : (34 : Int32) = iv 34 := rfl
theorem il_35 : (35 : Int32) = iv 35 := rfl
theorem il_36 : (36 : Int32) = iv 36 := rfl
theorem il_37 : (37 : Int32) = iv 37 := rfl
theorem il_38 : (38 : Int32) = iv 38 := rfl
theorem il_39 : (39 : Int32) = iv 39 := rfl
theorem il_40 : (40 : Int32) = iv 40 := rfl
theorem il_41 : (41 : Int32) = iv 41 := rfl
theorem il_42 : (42 : Int32) = iv 42 := rfl
theorem il_43 : (43 : Int32) = iv 43 := rfl
theorem il_44 : (44 : Int32) = iv 44 := rfl
theorem il_45 : (45 : Int32) = iv 45 := rfl
theorem il_46 : (46 : Int32) = iv 46 := rfl
theorem il_47 : (47 : Int32) = iv 47 := rfl
theorem il_48 : (48 : Int32) = iv 48 := rfl
theorem il_49 : (49 : Int32) = iv 49 := rfl
theorem il_50 : (50 : Int32) = iv 50 := rfl
theorem il_51 : (51 : Int32) = iv 51 := rfl
theorem il_52 : (52 : Int32) = iv 52 := rfl
theorem il_53 : (53 : Int32) = iv 53 := rfl
theorem il_54 : (54 : Int32) = iv 54 := rfl
theorem il_55 : (55 : Int32) = iv 55 := rfl
theorem il_56 : (56 : Int32) = iv 56 := rfl
theorem il_57 : (57 : Int32) = iv 57 := rfl
theorem il_58 : (58 : Int32) = iv 58 := rfl
theorem il_59 : (59 : Int32) = iv 59 := rfl
theorem il_60 : (60 : Int32) = iv 60 := rfl
theorem il_61 : (61 : Int32) = iv 61 := rfl
theorem il_62 : (62 : Int32) = iv 62 := rfl
theorem il_63 : (63 : Int32) = iv 63 := rfl
theorem il_64 : (64 : Int32) = iv 64 := rfl
theorem il_65 : (65 : Int32) = iv 65 := rfl
theorem il_66 : (66 : Int32) = iv 66 := rfl
theorem il_67 : (67 : Int32) = iv 67 := rfl
theorem il_68 : (68 : Int32) = iv 68 := rfl
theorem il_69 : (69 : Int32) = iv 69 := rfl
theorem il_70 : (70 : Int32) = iv 70 := rfl
theorem il_71 : (71 : Int32) = iv 71 := rfl
theorem il_72 : (72 : Int32) = iv 72 := rfl
theorem il_73 : (73 : Int32) = iv 73 := rfl
theorem il_74 : (74 : Int32) = iv 74 := rfl
theorem il_75 : (75 : Int32) = iv 75 := rfl
theorem il_76 : (76 : Int32) = iv 76 := rfl
theorem il_77 : (77 : Int32) = iv 77 := rfl
theorem il_78 : (78 : Int32) = iv 78 := rfl
theorem il_79 : (79 : Int32) = iv 79 := rfl
theorem il_80 : (80 : Int32) = iv 80 := rfl
theorem il_81 : (81 : Int32) = iv 81 := rfl
theorem il_82 : (82 : Int32) = iv 82 := rfl
theorem il_83 : (83 : Int32) = iv 83 := rfl
theorem il_84 : (84 : Int32) = iv 84 := rfl
theorem il_85 : (85 : Int32) = iv 85 := rfl
theorem il_86 : (86 : Int32) = iv 86 := rfl
theorem il_87 : (87 : Int32) = iv 87 := rfl
theorem il_88 : (88 : Int32) = iv 88 := rfl
theorem il_89 : (89 : Int32) = iv 89 := rfl
theorem il_90 : (90 : Int32) = iv 90 := rfl
theorem il_91 : (91 : Int32) = iv 91 := rfl
theorem il_92 : (92 : Int32) = iv 92 := rfl
theorem il_93 : (93 : Int32) = iv 93 := rfl
theorem il_94 : (94 : Int32) = iv 94 := rfl
theorem il_95 : (95 : Int32) = iv 95 := rfl
theorem il_96 : (96 : Int32) = iv 96 := rfl
theorem il_97 : (97 : Int32) = iv 97 := rfl
theorem il_98 : (98 : Int32) = iv 98 := rfl
theorem il_99 : (99 : Int32) = iv 99 := rfl
theorem il_100 : (100 : Int32) = iv 100 := rfl
theorem il_101 : (101 : Int32) = iv 101 := rfl
theorem il_102 : (102 : Int32) = iv 102 := rfl
theorem il_103 : (103 : Int32) = iv 103 := rfl
theorem il_104 : (104 : Int32) = iv 104 := rfl
theorem il_105 : (105 : Int32) = iv 105 := rfl
theorem il_106 : (106 : Int32) = iv 106 := rfl
theorem il_107 : (107 : Int32) = iv 107 := rfl
theorem il_108 : (108 : Int32) = iv 108 := rfl
theorem il_109 : (109 : Int32) = iv 109 := rfl
theorem il_110 : (110 : Int32) = iv 110 := rfl
theorem il_111 : (111 : Int32) = iv 111 := rfl
theorem il_112 : (112 : Int32) = iv 112 := rfl
theorem il_113 : (113 : Int32) = iv 113 := rfl
theorem il_114 : (114 : Int32) = iv 114 := rfl
theorem il_115 : (115 : Int32) = iv 115 := rfl
theorem il_116 : (116 : Int32) = iv 116 := rfl
theorem il_117 : (117 : Int32) = iv 117 := rfl
theorem il_118 : (118 : Int32) = iv 118 := rfl
theorem il_119 : (119 : Int32) = iv 119 := rfl
theorem il_120 : (120 : Int32) = iv 120 := rfl
theorem il_121 : (121 : Int32) = iv 121 := rfl
theorem il_122 : (122 : Int32) = iv 122 := rfl
theorem il_123 : (123 : Int32) = iv 123 := rfl
theorem il_124 : (124 : Int32) = iv 124 := rfl
theorem il_125 : (125 : Int32) = iv 125 := rfl
theorem il_126 : (126 : Int32) = iv 126 := rfl
theorem il_127 : (127 : Int32) = iv 127 := rfl
theorem il_128 : (128 : Int32) = iv 128 := rfl
theorem il_129 : (129 : Int32) = iv 129 := rfl
theorem il_130 : (130 : Int32) = iv 130 := rfl
theorem il_133 : (133 : Int32) = iv 133 := rfl
theorem il_138 : (138 : Int32) = iv 138 := rfl
theorem il_144 : (144 : Int32) = iv 144 := rfl
theorem il_149 : (149 : Int32) = iv 149 := rfl
theorem il_160 : (160 : Int32) = iv 160 := rfl
theorem il_161 : (161 : Int32) = iv 161 := rfl
theorem il_162 : (162 : Int32) = iv 162 := rfl
theorem il_165 : (165 : Int32) = iv 165 := rfl
theorem il_168 : (168 : Int32) = iv 168 := rfl
theorem il_171 : (171 : Int32) = iv 171 := rfl
theorem il_182 : (182 : Int32) = iv 182 := rfl
theorem il_207 : (207 : Int32) = iv 207 := rfl
theorem il_244 : (244 : Int32) = iv 244 := rfl
theorem il_247 : (247 : Int32) = iv 247 := rfl
theorem il_255 : (255 : Int32) = iv 255 := rfl
theorem il_256 : (256 : Int32) = iv 256 := rfl
theorem il_272 : (272 : Int32) = iv 272 := rfl
theorem il_277 : (277 : Int32) = iv 277 := rfl
theorem il_280 : (280 : Int32) = iv 280 := rfl
theorem il_300 : (300 : Int32) = iv 300 := rfl
theorem il_301 : (301 : Int32) = iv 301 := rfl
theorem il_330 : (330 : Int32) = iv 330 := rfl
theorem il_340 : (340 : Int32) = iv 340 := rfl
theorem il_363 : (363 : Int32) = iv 363 := rfl
theorem il_376 : (376 : Int32) = iv 376 := rfl
theorem il_399 : (399 : Int32) = iv 399 := rfl
theorem il_400 : (400 : Int32) = iv 400 := rfl
theorem il_421 : (421 : Int32) = iv 421 := rfl
theorem il_422 : (422 : Int32) = iv 422 := rfl
theorem il_445 : (445 : Int32) = iv 445 := rfl
theorem il_448 : (448 : Int32) = iv 448 := rfl
theorem il_478 : (478 : Int32) = iv 478 := rfl
theorem il_501 : (501 : Int32) = iv 501 := rfl
theorem il_512 : (512 : Int32) = iv 512 := rfl
theorem il_534 : (534 : Int32) = iv 534 := rfl
theorem il_547 : (547 : Int32) = iv 547 := rfl
theorem il_557 : (557 : Int32) = iv 557 := rfl
theorem il_580 : (580 : Int32) = iv 580 := rfl
theorem il_613 : (613 : Int32) = iv 613 := rfl
theorem il_626 : (626 : Int32) = iv 626 := rfl
theorem il_659 : (659 : Int32) = iv 659 := rfl
theorem il_673 : (673 : Int32) = iv 673 := rfl
theorem il_681 : (681 : Int32) = iv 681 := rfl
theorem il_682 : (682 : Int32) = iv 682 := rfl
theorem il_705 : (705 : Int32) = iv 705 := rfl
theorem il_738 : (738 : Int32) = iv 738 := rfl
theorem il_771 : (771 : Int32) = iv 771 := rfl
theorem il_814 : (814 : Int32) = iv 814 := rfl
theorem il_828 : (828 : Int32) = iv 828 := rfl
theorem il_853 : (853 : Int32) = iv 853 := rfl
theorem il_876 : (876 : Int32) = iv 876 := rfl
theorem il_889 : (889 : Int32) = iv 889 := rfl
theorem il_902 : (902 : Int32) = iv 902 := rfl
theorem il_925 : (925 : Int32) = iv 925 := rfl
theorem il_958 : (958 : Int32) = iv 958 := rfl
theorem il_999 : (999 : Int32) = iv 999 := rfl
theorem il_1000 : (1000 : Int32) = iv 1000 := rfl
theorem il_1001 : (1001 : Int32) = iv 1001 := rfl
theorem il_1034 : (1034 : Int32) = iv 1034 := rfl
theorem il_1077 : (1077 : Int32) = iv 1077 := rfl
theorem il_1110 : (1110 : Int32) = iv 1110 := rfl
theorem il_1123 : (1123 : Int32) = iv 1123 := rfl
theorem il_1146 : (1146 : Int32) = iv 1146 := rfl
theorem il_1159 : (1159 : Int32) = iv 1159 := rfl
theorem il_1212 : (1212 : Int32) = iv 1212 := rfl
theorem il_1218 : (1218 : Int32) = iv 1218 := rfl
theorem il_1225 : (1225 : Int32) = iv 1225 := rfl
theorem il_1252 : (1252 : Int32) = iv 1252 := rfl
theorem il_1269 : (1269 : Int32) = iv 1269 := rfl
theorem il_1290 : (1290 : Int32) = iv 1290 := rfl
theorem il_1323 : (1323 : Int32) = iv 1323 := rfl
theorem il_1342 : (1342 : Int32) = iv 1342 := rfl
theorem il_1372 : (1372 : Int32) = iv 1372 := rfl
theorem il_1401 : (1401 : Int32) = iv 1401 := rfl
theorem il_1425 : (1425 : Int32) = iv 1425 := rfl
theorem il_1442 : (1442 : Int32) = iv 1442 := rfl
theorem il_1450 : (1450 : Int32) = iv 1450 := rfl
theorem il_1475 : (1475 : Int32) = iv 1475 := rfl
theorem il_1494 : (1494 : Int32) = iv 1494 := rfl
theorem il_1524 : (1524 : Int32) = iv 1524 := rfl
theorem il_1557 : (1557 : Int32) = iv 1557 := rfl
theorem il_1570 : (1570 : Int32) = iv 1570 := rfl
theorem il_1583 : (1583 : Int32) = iv 1583 := rfl
theorem il_1596 : (1596 : Int32) = iv 1596 := rfl
theorem il_1619 : (1619 : Int32) = iv 1619 := rfl
theorem il_1632 : (1632 : Int32) = iv 1632 := rfl
theorem il_1645 : (1645 : Int32) = iv 1645 := rfl
theorem il_1668 : (1668 : Int32) = iv 1668 := rfl
theorem il_2688 : (2688 : Int32) = iv 2688 := rfl
theorem il_2724 : (2724 : Int32) = iv 2724 := rfl
theorem il_4096 : (4096 : Int32) = iv 4096 := rfl
theorem il_7776 : (7776 : Int32) = iv 7776 := rfl
theorem il_9999 : (9999 : Int32) = iv 9999 := rfl
theorem il_10000 : (10000 : Int32) = iv 10000 := rfl
theorem il_30971 : (30971 : Int32) = iv 30971 := rfl
theorem il_32767 : (32767 : Int32) = iv 32767 := rfl
theorem il_55555 : (55555 : Int32) = iv 55555 := rfl
theorem il_65536 : (65536 : Int32) = iv 65536 := rfl
theorem il_99999 : (99999 : Int32) = iv 99999 := rfl
theorem il_100000 : (100000 : Int32) = iv 100000 := rfl
theorem il_1000000 : (1000000 : Int32) = iv 1000000 := rfl
theorem il_252645135 : (252645135 : Int32) = iv 252645135 := rfl
theorem il_858993459 : (858993459 : Int32) = iv 858993459 := rfl
theorem il_1431655765 : (1431655765 : Int32) = iv 1431655765 := rfl
theorem jl_0 : (0 : Int64) = jv 0 := rfl
theorem jl_1 : (1 : Int64) = jv 1 := rfl
theorem jl_2 : (2 : Int64) = jv 2 := rfl
theorem jl_3 : (3 : Int64) = jv 3 := rfl
theorem jl_7 : (7 : Int64) = jv 7 := rfl
theorem jl_8 : (8 : Int64) = jv 8 := rfl
theorem jl_10 : (10 : Int64) = jv 10 := rfl
theorem jl_48 : (48 : Int64) = jv 48 := rfl
theorem jl_60 : (60 : Int64) = jv 60 := rfl
theorem jl_547 : (547 : Int64) = jv 547 := rfl
theorem jl_673 : (673 : Int64) = jv 673 := rfl
theorem jl_30971 : (30971 : Int64) = jv 30971 := rfl
theorem jl_1000000 : (1000000 : Int64) = jv 1000000 := rfl
end
