/-! TWO who wait; HOW NEAR: the greatest number that divides both, by its steps -/
theorem gcd_st (a b : Nat) : Nat.gcd a b = Nat.gcd b (a % b) := by
  rw [Nat.gcd_comm a b, Nat.gcd_rec b a, Nat.gcd_comm]
section
variable {V J : Vm} {z : Zz}
theorem jmod {a b : Nat} (ha : a < 9223372036854775808) (hb : 0 < b ∧ b < 9223372036854775808) : jv (a : Int) % jv (b : Int) = jv ((a % b : Nat) : Int) := by
  rw [jv_mod (by omega), Int.natCast_emod]
theorem imod {a b : Nat} (ha : a < 2147483648) (hb : 0 < b ∧ b < 2147483648) : iv (a : Int) % iv (b : Int) = iv ((a % b : Nat) : Int) := by
  rw [iv_mod (by omega), Int.natCast_emod]
theorem jv_0 {b : Nat} (hb : b < 9223372036854775808) : (jv (b : Int) = 0) = (b = 0) := by
  apply propext
  constructor
  · intro e
    have q := congrArg Int64.toInt e
    rw [jv_toInt (by omega)] at q
    have q : (b : Int) = 0 := q
    omega
  · intro e; rw [e]; rfl
theorem y_longDiv {h : Mem} : ∀ (m a b : Nat), b ≤ m → a < 4611686018427387904 → b < 4611686018427387904 → rX m_M_longDivisor m_M_longDivisor 6 [dd, dd, dd, dd, .long (jv a), dd, .long (jv b), dd, dd, dd] [] h = some (.long (jv (Nat.gcd a b : Nat)), h) := by
  intro m
  induction m with
  | zero =>
    intro a b hb ha hb2
    have e : b = 0 := by omega
    subst e
    rw [q_M_longDivisor_6, show lg_cmp (jv ((0 : Nat) : Int)) 0 = 0 from rfl, if_pos rfl, Nat.gcd_zero_right]
  | succ m ih =>
    intro a b hb ha hb2
    by_cases e : b = 0
    · subst e
      rw [q_M_longDivisor_6, show lg_cmp (jv ((0 : Nat) : Int)) 0 = 0 from rfl, if_pos rfl, Nat.gcd_zero_right]
    · have l := Nat.mod_lt a (show b > 0 by omega)
      rw [gcd_st, ← ih b (a % b) (by omega) hb2 (by omega), q_M_longDivisor_6, show (0 : Int64) = jv 0 from rfl, jc_gt (by omega), if_neg (show ¬ iv 1 = 0 by decide), if_neg (by rw [show jv 0 = 0 from rfl, jv_0 (by omega)]; exact e), jmod (by omega) (by omega)]
theorem y_longDivisor {h : Mem} {a b : Nat} (ha : a < 4611686018427387904) (hb : b < 4611686018427387904) : cA m_M_longDivisor [.long (jv a), .long (jv b)] h = some (.long (jv (Nat.gcd a b : Nat)), h) := by
  rw [q_M_longDivisor]
  exact y_longDiv b a b (Nat.le_refl _) ha hb
/-- Euclid's steps in the class: the second number is below 2 ^ k, 2 k + 1 steps are left -/
theorem y_low_l {h : Mem} {x : Int} (hx : 0 ≤ x ∧ x < 4611686018427387904) : ∀ (k a b : Nat) (i : Nat), b < 2 ^ k → a < 4611686018427387904 → b < 4611686018427387904 → 0 < Nat.gcd a b → i + 2 * k + 1 < 1000 → rX m_X_lowest m_X_lowest 10 [.long (jv x), dd, dd, dd, dd, dd, .long (jv a), dd, .long (jv b), dd, .int (iv i), dd, dd] [] h = some (.long (jv (x / (Nat.gcd a b : Nat))), h) := by
  have fin : ∀ (a i : Nat), a < 4611686018427387904 → 0 < a → i < 1000 → rX m_X_lowest m_X_lowest 10 [.long (jv x), dd, dd, dd, dd, dd, .long (jv a), dd, .long (jv ((0 : Nat) : Int)), dd, .int (iv i), dd, dd] [] h = some (.long (jv (x / (a : Int))), h) := by
    intro a i ha h0 hi
    rw [q_X_lowest_10, il_1000, if_pos (of_eq_true (iv_ltT (by omega))), show lg_cmp (jv ((0 : Nat) : Int)) 0 = 0 from rfl, if_pos rfl, show (0 : Int64) = jv 0 from rfl, jc_gt (by omega), if_neg (show ¬ iv 1 = 0 by decide), if_neg (by rw [show jv 0 = 0 from rfl, jv_0 (by omega)]; omega), jv_div (by omega)]
  have stp : ∀ (a b i : Nat), a < 4611686018427387904 → b < 4611686018427387904 → 0 < b → i < 1000 → rX m_X_lowest m_X_lowest 10 [.long (jv x), dd, dd, dd, dd, dd, .long (jv a), dd, .long (jv b), dd, .int (iv i), dd, dd] [] h = rX m_X_lowest m_X_lowest 10 [.long (jv x), dd, dd, dd, dd, dd, .long (jv b), dd, .long (jv ((a % b : Nat) : Int)), dd, .int (iv ((i + 1 : Nat) : Int)), dd, dd] [] h := by
    intro a b i ha hb h0 hi
    rw [q_X_lowest_10, il_1000, if_pos (of_eq_true (iv_ltT (by omega))), show (0 : Int64) = jv 0 from rfl, jc_gt (by omega), if_neg (show ¬ iv 1 = 0 by decide), if_neg (by rw [show jv 0 = 0 from rfl, jv_0 (by omega)]; omega), jmod (by omega) (by omega), il_1, iv_add]
    rfl
  intro k
  induction k with
  | zero =>
    intro a b i hk ha hb hg hi
    have e : b = 0 := by omega
    subst e
    rw [Nat.gcd_zero_right] at hg ⊢
    exact fin a i ha hg (by omega)
  | succ k ih =>
    intro a b i hk ha hb hg hi
    by_cases e : b = 0
    · subst e
      rw [Nat.gcd_zero_right] at hg ⊢
      exact fin a i ha hg (by omega)
    · have l := Nat.mod_lt a (show b > 0 by omega)
      rw [stp a b i ha hb (by omega) (by omega)]
      rw [gcd_st] at hg ⊢
      by_cases e2 : a % b = 0
      · rw [e2] at hg ⊢
        rw [Nat.gcd_zero_right] at hg ⊢
        exact fin b (i + 1) hb hg (by omega)
      · have l2 := Nat.mod_lt b (show a % b > 0 by omega)
        rw [stp b (a % b) (i + 1) hb (by omega) (by omega) (by omega)]
        rw [gcd_st] at hg ⊢
        have h2 : b % (a % b) < 2 ^ k := by
          have d := Nat.div_add_mod b (a % b)
          have q1 : 1 ≤ b / (a % b) := Nat.div_pos (by omega) (by omega)
          have q2 : a % b ≤ (a % b) * (b / (a % b)) := Nat.le_mul_of_pos_right _ q1
          have p : 2 ^ (k + 1) = 2 * 2 ^ k := by rw [Nat.pow_succ]; omega
          omega
        exact ih (a % b) (b % (a % b)) (i + 1 + 1) h2 (by omega) (by omega) hg (by omega)
theorem y_lowest {h : Mem} {x : Int} {a b : Nat} (hx : 0 ≤ x ∧ x < 4611686018427387904) (ha : a < 4611686018427387904) (hb : b < 4611686018427387904) (hg : 0 < Nat.gcd a b) : cA m_X_lowest [.long (jv x), .long (jv a), .long (jv b)] h = some (.long (jv (x / (Nat.gcd a b : Nat))), h) := by
  rw [q_X_lowest, il_0]
  exact y_low_l hx 62 a b 0 (by omega) ha hb hg (by omega)
theorem y_div_p {h : Mem} : ∀ (m a b : Nat), b ≤ m → a < 1000000 → b < 1000000 → rX m_M_divisor m_M_divisor 4 [dd, dd, .int (iv a), .int (iv b), dd] [] h = some (.int (iv (Nat.gcd a b : Nat)), h) := by
  intro m
  induction m with
  | zero =>
    intro a b hb ha hb2
    have e : b = 0 := by omega
    subst e
    rw [Nat.gcd_zero_right]
    (rw [q_M_divisor_4]; simp (disch := first | decide | omega | (simp (disch := first | decide | omega) only [sv_s, sv_o, ur_s, ur_e, ur_o]; omega)) only [↓reduceIte, iv_add, iv_sub, iv_mul, iv_neg, iv_ltT, iv_ltF, iv_leT, iv_leF, iv_eqT, iv_eqF, iv_div, iv_mod, ↓bnI_s, ↓bnV_s, ↓bnJ_s, ↓bnR_s, rt_e, rt_0, rt_bz, sv_s, sv_o, ur_s, ur_e, ur_o, bz_T, bz_F, nat_eqF, Nat.reduceAdd, il_0, il_1, il_4])
  | succ m ih =>
    intro a b hb ha hb2
    by_cases e : b = 0
    · subst e
      rw [Nat.gcd_zero_right]
      (rw [q_M_divisor_4]; simp (disch := first | decide | omega | (simp (disch := first | decide | omega) only [sv_s, sv_o, ur_s, ur_e, ur_o]; omega)) only [↓reduceIte, iv_add, iv_sub, iv_mul, iv_neg, iv_ltT, iv_ltF, iv_leT, iv_leF, iv_eqT, iv_eqF, iv_div, iv_mod, ↓bnI_s, ↓bnV_s, ↓bnJ_s, ↓bnR_s, rt_e, rt_0, rt_bz, sv_s, sv_o, ur_s, ur_e, ur_o, bz_T, bz_F, nat_eqF, Nat.reduceAdd, il_0, il_1, il_4])
    · have l := Nat.mod_lt a (show b > 0 by omega)
      rw [gcd_st, ← ih b (a % b) (by omega) hb2 (by omega)]
      (rw [q_M_divisor_4]; simp (disch := first | decide | omega | (simp (disch := first | decide | omega) only [sv_s, sv_o, ur_s, ur_e, ur_o]; omega)) only [↓reduceIte, iv_add, iv_sub, iv_mul, iv_neg, iv_ltT, iv_ltF, iv_leT, iv_leF, iv_eqT, iv_eqF, iv_div, ↓bnI_s, ↓bnV_s, ↓bnJ_s, ↓bnR_s, rt_e, rt_0, rt_bz, sv_s, sv_o, ur_s, ur_e, ur_o, bz_T, bz_F, nat_eqF, Nat.reduceAdd, il_0, il_1, il_4, imod])
theorem inegmod {a b : Nat} (ha : a < 2147483648) (hb : 0 < b ∧ b < 2147483648) : iv (-(a : Int)) % iv (-(b : Int)) = iv (-((a % b : Nat) : Int)) := by
  have q : Int32.ofInt ((-(a : Int)).tmod (-(b : Int))) = Int32.ofInt (-(a : Int)) % Int32.ofInt (-(b : Int)) := Int32.ofInt_tmod (by rw [Int32.toInt_minValue]; omega) (by rw [Int32.toInt_maxValue]; omega) (by rw [Int32.toInt_minValue]; omega) (by rw [Int32.toInt_maxValue]; omega)
  rw [Int.tmod_neg, Int.neg_tmod, Int.tmod_eq_emod_of_nonneg (by omega), ← Int.natCast_emod] at q
  exact q.symm
theorem y_div_n {h : Mem} : ∀ (m a b : Nat), b ≤ m → a < 1000000 → b < 1000000 → rX m_M_divisor m_M_divisor 4 [dd, dd, .int (iv (-(a : Int))), .int (iv (-(b : Int))), dd] [] h = some (.int (iv (Nat.gcd a b : Nat)), h) := by
  intro m
  induction m with
  | zero =>
    intro a b hb ha hb2
    have e : b = 0 := by omega
    subst e
    rw [Nat.gcd_zero_right]
    by_cases e2 : a = 0
    · subst e2
      (rw [q_M_divisor_4]; simp (disch := first | decide | omega | (simp (disch := first | decide | omega) only [sv_s, sv_o, ur_s, ur_e, ur_o]; omega)) only [↓reduceIte, iv_add, iv_sub, iv_mul, iv_neg, iv_ltT, iv_ltF, iv_leT, iv_leF, iv_eqT, iv_eqF, iv_div, iv_mod, ↓bnI_s, ↓bnV_s, ↓bnJ_s, ↓bnR_s, rt_e, rt_0, rt_bz, sv_s, sv_o, ur_s, ur_e, ur_o, bz_T, bz_F, nat_eqF, Nat.reduceAdd, il_0, il_1, il_4])
      rfl
    · (rw [q_M_divisor_4]; simp (disch := first | decide | omega | (simp (disch := first | decide | omega) only [sv_s, sv_o, ur_s, ur_e, ur_o]; omega)) only [↓reduceIte, iv_add, iv_sub, iv_mul, iv_neg, iv_ltT, iv_ltF, iv_leT, iv_leF, iv_eqT, iv_eqF, iv_div, iv_mod, ↓bnI_s, ↓bnV_s, ↓bnJ_s, ↓bnR_s, rt_e, rt_0, rt_bz, sv_s, sv_o, ur_s, ur_e, ur_o, bz_T, bz_F, nat_eqF, Nat.reduceAdd, il_0, il_1, il_4])
      exact si (by omega)
  | succ m ih =>
    intro a b hb ha hb2
    by_cases e : b = 0
    · subst e
      rw [Nat.gcd_zero_right]
      by_cases e2 : a = 0
      · subst e2
        (rw [q_M_divisor_4]; simp (disch := first | decide | omega | (simp (disch := first | decide | omega) only [sv_s, sv_o, ur_s, ur_e, ur_o]; omega)) only [↓reduceIte, iv_add, iv_sub, iv_mul, iv_neg, iv_ltT, iv_ltF, iv_leT, iv_leF, iv_eqT, iv_eqF, iv_div, iv_mod, ↓bnI_s, ↓bnV_s, ↓bnJ_s, ↓bnR_s, rt_e, rt_0, rt_bz, sv_s, sv_o, ur_s, ur_e, ur_o, bz_T, bz_F, nat_eqF, Nat.reduceAdd, il_0, il_1, il_4])
        rfl
      · (rw [q_M_divisor_4]; simp (disch := first | decide | omega | (simp (disch := first | decide | omega) only [sv_s, sv_o, ur_s, ur_e, ur_o]; omega)) only [↓reduceIte, iv_add, iv_sub, iv_mul, iv_neg, iv_ltT, iv_ltF, iv_leT, iv_leF, iv_eqT, iv_eqF, iv_div, iv_mod, ↓bnI_s, ↓bnV_s, ↓bnJ_s, ↓bnR_s, rt_e, rt_0, rt_bz, sv_s, sv_o, ur_s, ur_e, ur_o, bz_T, bz_F, nat_eqF, Nat.reduceAdd, il_0, il_1, il_4])
        exact si (by omega)
    · have l := Nat.mod_lt a (show b > 0 by omega)
      rw [gcd_st, ← ih b (a % b) (by omega) hb2 (by omega)]
      (rw [q_M_divisor_4]; simp (disch := first | decide | omega | (simp (disch := first | decide | omega) only [sv_s, sv_o, ur_s, ur_e, ur_o]; omega)) only [↓reduceIte, iv_add, iv_sub, iv_mul, iv_neg, iv_ltT, iv_ltF, iv_leT, iv_leF, iv_eqT, iv_eqF, iv_div, ↓bnI_s, ↓bnV_s, ↓bnJ_s, ↓bnR_s, rt_e, rt_0, rt_bz, sv_s, sv_o, ur_s, ur_e, ur_o, bz_T, bz_F, nat_eqF, Nat.reduceAdd, il_0, il_1, il_4, inegmod])
theorem y_X_gainOf (F : Fix z) {a b w : Int} (h : 0 ≤ 4 * a + 2 * b + w ∧ 4 * a + 2 * b + w < 8) : cA m_X_gainOf [.ref 8, .int (iv a), .int (iv b), .int (iv w)] (em V J z) = some (.int (iv (V 20 (4 * a + 2 * b + w))), em V J z) := by
  simp (disch := first | decide | omega | (simp (disch := first | decide | omega) only [sv_s, sv_o, ur_s, ur_e, ur_o]; omega)) only [↓reduceIte, iv_add, iv_sub, iv_mul, iv_neg, iv_ltT, iv_ltF, iv_leT, iv_leF, iv_eqT, iv_eqF, iv_div, iv_mod, ↓bnI_s, ↓bnV_s, ↓bnJ_s, ↓bnR_s, rt_e, rt_0, rt_bz, sv_s, sv_o, ur_s, ur_e, ur_o, bz_T, bz_F, nat_eqF, Nat.reduceAdd, ↓q_X_gainOf, ↓gR_8_0 F, ↓gR_9_5 F, ↓gd_8 F, il_0, il_1, il_2, il_4, il_5, il_10, il_26, y_get (s_20 F) (by decide), rd_in]
theorem y_M_gainOf (F : Fix z) {a b w : Int} (h : 0 ≤ 4 * a + 2 * b + w ∧ 4 * a + 2 * b + w < 8) : cA m_M_gainOf [.ref 435, .int (iv a), .int (iv b), .int (iv w)] (em V J z) = some (.int (iv (V 436 (125 + 4 * a + 2 * b + w))), em V J z) := by
  simp (disch := first | decide | omega | (simp (disch := first | decide | omega) only [sv_s, sv_o, ur_s, ur_e, ur_o]; omega)) only [↓reduceIte, iv_add, iv_sub, iv_mul, iv_neg, iv_ltT, iv_ltF, iv_leT, iv_leF, iv_eqT, iv_eqF, iv_div, iv_mod, ↓bnI_s, ↓bnV_s, ↓bnJ_s, ↓bnR_s, rt_e, rt_0, rt_bz, sv_s, sv_o, ur_s, ur_e, ur_o, bz_T, bz_F, nat_eqF, Nat.reduceAdd, ↓q_M_gainOf, ↓gR_435_0 F, ↓lI_436 F, ↓lI_437 F, ↓lI_438 F, ↓lI_439 F, ↓lI_440 F, ↓lI_441 F, ↓lI_443 F, ↓lI_444 F, ↓lI_445 F, ↓lI_446 F, ↓lI_447 F, ↓lI_448 F, ↓lI_449 F, ↓lI_450 F, ↓gd_435 F, il_0, il_1, il_2, il_4, il_11, il_27, il_125]
end
/-- one bit of RESTS more -/
def rs1 (G : Int → Int) (x : Int32) (a b : Int) : Int32 := if G (4 * (1 - a) + 2 * b) ≤ G (4 * a + 2 * b) ∧ G (4 * a + 2 * (1 - b) + 1) ≤ G (4 * a + 2 * b + 1) then x ||| (iv 1 <<< (iv (2 * a + b) &&& iv 31)) else x
section
variable {V J : Vm} {z : Zz}
theorem y_rests_x (F : Fix z) (hG : ∀ k, 0 ≤ k → k < 8 → -99 ≤ V 20 k ∧ V 20 k ≤ 99) {a b : Int} {x : Int32} (ha : 0 ≤ a ∧ a < 2) (hb : 0 ≤ b ∧ b < 2) : rX m_X_rests m_X_rests 11 [.ref 8, .int x, .int (iv a), .int (iv b), dd] [] (em V J z) = rX m_X_rests m_X_rests 11 [.ref 8, .int (rs1 (V 20) x a b), .int (iv a), .int (iv (b + 1)), dd] [] (em V J z) := by
  have g1 := hG (4 * a + 2 * b + 0) (by omega) (by omega)
  have g2 := hG (4 * (1 - a) + 2 * b + 0) (by omega) (by omega)
  have g3 := hG (4 * a + 2 * b + 1) (by omega) (by omega)
  have g4 := hG (4 * a + 2 * (1 - b) + 1) (by omega) (by omega)
  have e1 := y_X_gainOf (V := V) (J := J) F (a := a) (b := b) (w := 0) (by omega)
  have e2 := y_X_gainOf (V := V) (J := J) F (a := 1 - a) (b := b) (w := 0) (by omega)
  have e3 := y_X_gainOf (V := V) (J := J) F (a := a) (b := b) (w := 1) (by omega)
  have e4 := y_X_gainOf (V := V) (J := J) F (a := a) (b := 1 - b) (w := 1) (by omega)
  unfold rs1
  rw [show 4 * (1 - a) + 2 * b = 4 * (1 - a) + 2 * b + 0 by omega, show 4 * a + 2 * b = 4 * a + 2 * b + 0 by omega, show 4 * a + 2 * b + 0 + 1 = 4 * a + 2 * b + 1 by omega]
  generalize V 20 (4 * a + 2 * b + 0) = u1 at *
  generalize V 20 (4 * (1 - a) + 2 * b + 0) = u2 at *
  generalize V 20 (4 * a + 2 * b + 1) = u3 at *
  generalize V 20 (4 * a + 2 * (1 - b) + 1) = u4 at *
  by_cases q1 : u2 ≤ u1
  · by_cases q2 : u4 ≤ u3
    · rw [if_pos ⟨q1, q2⟩]
      (rw [q_X_rests_11]; simp (disch := first | decide | omega | (simp (disch := first | decide | omega) only [sv_s, sv_o, ur_s, ur_e, ur_o]; omega)) only [↓reduceIte, iv_add, iv_sub, iv_mul, iv_neg, iv_ltT, iv_ltF, iv_leT, iv_leF, iv_eqT, iv_eqF, iv_div, iv_mod, ↓bnI_s, ↓bnV_s, ↓bnJ_s, ↓bnR_s, rt_e, rt_0, rt_bz, sv_s, sv_o, ur_s, ur_e, ur_o, bz_T, bz_F, nat_eqF, Nat.reduceAdd, il_0, il_1, il_2, il_4, il_11, il_31, il_40, ↓q_X_rests_40, e1, e2, e3, e4, il_2])
    · rw [if_neg (fun q => q2 q.2)]
      (rw [q_X_rests_11]; simp (disch := first | decide | omega | (simp (disch := first | decide | omega) only [sv_s, sv_o, ur_s, ur_e, ur_o]; omega)) only [↓reduceIte, iv_add, iv_sub, iv_mul, iv_neg, iv_ltT, iv_ltF, iv_leT, iv_leF, iv_eqT, iv_eqF, iv_div, iv_mod, ↓bnI_s, ↓bnV_s, ↓bnJ_s, ↓bnR_s, rt_e, rt_0, rt_bz, sv_s, sv_o, ur_s, ur_e, ur_o, bz_T, bz_F, nat_eqF, Nat.reduceAdd, il_0, il_1, il_2, il_4, il_11, il_31, il_40, ↓q_X_rests_40, e1, e2, e3, e4, il_2])
  · rw [if_neg (fun q => q1 q.1)]
    (rw [q_X_rests_11]; simp (disch := first | decide | omega | (simp (disch := first | decide | omega) only [sv_s, sv_o, ur_s, ur_e, ur_o]; omega)) only [↓reduceIte, iv_add, iv_sub, iv_mul, iv_neg, iv_ltT, iv_ltF, iv_leT, iv_leF, iv_eqT, iv_eqF, iv_div, iv_mod, ↓bnI_s, ↓bnV_s, ↓bnJ_s, ↓bnR_s, rt_e, rt_0, rt_bz, sv_s, sv_o, ur_s, ur_e, ur_o, bz_T, bz_F, nat_eqF, Nat.reduceAdd, il_0, il_1, il_2, il_4, il_11, il_31, il_40, ↓q_X_rests_40, e1, e2, e3, e4, il_2])
theorem y_rests_m (F : Fix z) {G : Int → Int} (hG : ∀ k, 0 ≤ k → k < 8 → V 436 (125 + k) = G k ∧ -99 ≤ G k ∧ G k ≤ 99) {a b k : Int} {x : Int32} (ha : 0 ≤ a ∧ a < 2) (hb : 0 ≤ b ∧ b < 2) (hk : k = 2 * a + b) : rX m_M_rests m_M_rests 4 [.ref 435, .int x, .int (iv k)] [] (em V J z) = rX m_M_rests m_M_rests 4 [.ref 435, .int (rs1 G x a b), .int (iv (k + 1))] [] (em V J z) := by
  have g1 := hG (4 * a + 2 * b + 0) (by omega) (by omega)
  have g2 := hG (4 * (1 - a) + 2 * b + 0) (by omega) (by omega)
  have g3 := hG (4 * a + 2 * b + 1) (by omega) (by omega)
  have g4 := hG (4 * a + 2 * (1 - b) + 1) (by omega) (by omega)
  have e1 := y_M_gainOf (V := V) (J := J) F (a := a) (b := b) (w := 0) (by omega)
  have e2 := y_M_gainOf (V := V) (J := J) F (a := 1 - a) (b := b) (w := 0) (by omega)
  have e3 := y_M_gainOf (V := V) (J := J) F (a := a) (b := b) (w := 1) (by omega)
  have e4 := y_M_gainOf (V := V) (J := J) F (a := a) (b := 1 - b) (w := 1) (by omega)
  rw [show 125 + 4 * a + 2 * b + 0 = 125 + (4 * a + 2 * b + 0) by omega, g1.1] at e1
  rw [show 125 + 4 * (1 - a) + 2 * b + 0 = 125 + (4 * (1 - a) + 2 * b + 0) by omega, g2.1] at e2
  rw [show 125 + 4 * a + 2 * b + 1 = 125 + (4 * a + 2 * b + 1) by omega, g3.1] at e3
  rw [show 125 + 4 * a + 2 * (1 - b) + 1 = 125 + (4 * a + 2 * (1 - b) + 1) by omega, g4.1] at e4
  have d1 : k / 2 = a := by omega
  have d2 : k % 2 = b := by omega
  unfold rs1
  rw [show 4 * (1 - a) + 2 * b = 4 * (1 - a) + 2 * b + 0 by omega, show 4 * a + 2 * b = 4 * a + 2 * b + 0 by omega, show 4 * a + 2 * b + 0 + 1 = 4 * a + 2 * b + 1 by omega, ← hk]
  generalize G (4 * a + 2 * b + 0) = u1 at *
  generalize G (4 * (1 - a) + 2 * b + 0) = u2 at *
  generalize G (4 * a + 2 * b + 1) = u3 at *
  generalize G (4 * a + 2 * (1 - b) + 1) = u4 at *
  by_cases q1 : u2 ≤ u1
  · by_cases q2 : u4 ≤ u3
    · rw [if_pos ⟨q1, q2⟩]
      (rw [q_M_rests_4]; simp (disch := first | decide | omega | (simp (disch := first | decide | omega) only [sv_s, sv_o, ur_s, ur_e, ur_o]; omega)) only [↓reduceIte, iv_add, iv_sub, iv_mul, iv_neg, iv_ltT, iv_ltF, iv_leT, iv_leF, iv_eqT, iv_eqF, iv_div, iv_mod, ↓bnI_s, ↓bnV_s, ↓bnJ_s, ↓bnR_s, rt_e, rt_0, rt_bz, sv_s, sv_o, ur_s, ur_e, ur_o, bz_T, bz_F, nat_eqF, Nat.reduceAdd, il_0, il_1, il_2, il_4, il_31, d1, d2, e1, e2, e3, e4])
    · rw [if_neg (fun q => q2 q.2)]
      (rw [q_M_rests_4]; simp (disch := first | decide | omega | (simp (disch := first | decide | omega) only [sv_s, sv_o, ur_s, ur_e, ur_o]; omega)) only [↓reduceIte, iv_add, iv_sub, iv_mul, iv_neg, iv_ltT, iv_ltF, iv_leT, iv_leF, iv_eqT, iv_eqF, iv_div, iv_mod, ↓bnI_s, ↓bnV_s, ↓bnJ_s, ↓bnR_s, rt_e, rt_0, rt_bz, sv_s, sv_o, ur_s, ur_e, ur_o, bz_T, bz_F, nat_eqF, Nat.reduceAdd, il_0, il_1, il_2, il_4, il_31, d1, d2, e1, e2, e3, e4])
  · rw [if_neg (fun q => q1 q.1)]
    (rw [q_M_rests_4]; simp (disch := first | decide | omega | (simp (disch := first | decide | omega) only [sv_s, sv_o, ur_s, ur_e, ur_o]; omega)) only [↓reduceIte, iv_add, iv_sub, iv_mul, iv_neg, iv_ltT, iv_ltF, iv_leT, iv_leF, iv_eqT, iv_eqF, iv_div, iv_mod, ↓bnI_s, ↓bnV_s, ↓bnJ_s, ↓bnR_s, rt_e, rt_0, rt_bz, sv_s, sv_o, ur_s, ur_e, ur_o, bz_T, bz_F, nat_eqF, Nat.reduceAdd, il_0, il_1, il_2, il_4, il_31, d1, d2, e1, e2, e3, e4])
theorem p_rests (F : Fix z) (hg : Gai V 9 (V 436)) : Pq V J z (fun h => cA m_X_rests [.ref 8] h) (fun h => cA m_M_rests [.ref 435] h) := by
  have h1 : ∀ k, 0 ≤ k → k < 8 → -99 ≤ V 20 k ∧ V 20 k ≤ 99 := fun k k0 k1 => by
    obtain ⟨a, b⟩ := hg k k0 k1
    have a : V 20 k = V 436 (125 + k) := a
    rw [a]; exact b
  have h2 : ∀ k, 0 ≤ k → k < 8 → V 436 (125 + k) = V 20 k ∧ -99 ≤ V 20 k ∧ V 20 k ≤ 99 := fun k k0 k1 => ⟨(hg k k0 k1).1.symm, h1 k k0 k1⟩
  have sx : ∀ a (x : Int32), 0 ≤ a ∧ a < 2 → rX m_X_rests m_X_rests 4 [.ref 8, .int x, .int (iv a), dd, dd] [] (em V J z) = rX m_X_rests m_X_rests 4 [.ref 8, .int (rs1 (V 20) (rs1 (V 20) x a 0) a 1), .int (iv (a + 1)), dd, dd] [] (em V J z) := by
    intro a x ha
    have e1 := y_rests_x (J := J) F h1 (a := a) (b := 0) (x := x) ha (by omega)
    have e2 := y_rests_x (J := J) F h1 (a := a) (b := 0 + 1) (x := rs1 (V 20) x a 0) ha (by omega)
    have e0 : rX m_X_rests m_X_rests 4 [.ref 8, .int x, .int (iv a), dd, dd] [] (em V J z) = rX m_X_rests m_X_rests 11 [.ref 8, .int x, .int (iv a), .int (iv 0), dd] [] (em V J z) := by
      (rw [q_X_rests_4]; simp (disch := first | decide | omega | (simp (disch := first | decide | omega) only [sv_s, sv_o, ur_s, ur_e, ur_o]; omega)) only [↓reduceIte, iv_add, iv_sub, iv_mul, iv_neg, iv_ltT, iv_ltF, iv_leT, iv_leF, iv_eqT, iv_eqF, iv_div, iv_mod, ↓bnI_s, ↓bnV_s, ↓bnJ_s, ↓bnR_s, rt_e, rt_0, rt_bz, sv_s, sv_o, ur_s, ur_e, ur_o, bz_T, bz_F, nat_eqF, Nat.reduceAdd, il_0, il_1, il_2, il_4, il_11])
    have e3 : rX m_X_rests m_X_rests 11 [.ref 8, .int (rs1 (V 20) (rs1 (V 20) x a 0) a (0 + 1)), .int (iv a), .int (iv (0 + 1 + 1)), dd] [] (em V J z) = rX m_X_rests m_X_rests 4 [.ref 8, .int (rs1 (V 20) (rs1 (V 20) x a 0) a 1), .int (iv (a + 1)), dd, dd] [] (em V J z) := by
      (rw [q_X_rests_11]; simp (disch := first | decide | omega | (simp (disch := first | decide | omega) only [sv_s, sv_o, ur_s, ur_e, ur_o]; omega)) only [↓reduceIte, iv_add, iv_sub, iv_mul, iv_neg, iv_ltT, iv_ltF, iv_leT, iv_leF, iv_eqT, iv_eqF, iv_div, iv_mod, ↓bnI_s, ↓bnV_s, ↓bnJ_s, ↓bnR_s, rt_e, rt_0, rt_bz, sv_s, sv_o, ur_s, ur_e, ur_o, bz_T, bz_F, nat_eqF, Nat.reduceAdd, il_0, il_1, il_2, il_4, il_11, il_40, Int.zero_add])
    exact e0.trans (e1.trans (e2.trans e3))
  have x0 := sx 0 (iv 0) (by omega)
  have x1 := sx (0 + 1) (rs1 (V 20) (rs1 (V 20) (iv 0) 0 0) 0 1) (by omega)
  have x2 : ∀ x : Int32, rX m_X_rests m_X_rests 4 [.ref 8, .int x, .int (iv (0 + 1 + 1)), dd, dd] [] (em V J z) = some (.int (iv x.toInt), em V J z) := by
    intro x
    (rw [q_X_rests_4]; simp (disch := first | decide | omega | (simp (disch := first | decide | omega) only [sv_s, sv_o, ur_s, ur_e, ur_o]; omega)) only [↓reduceIte, iv_add, iv_sub, iv_mul, iv_neg, iv_ltT, iv_ltF, iv_leT, iv_leF, iv_eqT, iv_eqF, iv_div, iv_mod, ↓bnI_s, ↓bnV_s, ↓bnJ_s, ↓bnR_s, rt_e, rt_0, rt_bz, sv_s, sv_o, ur_s, ur_e, ur_o, bz_T, bz_F, nat_eqF, Nat.reduceAdd, il_0, il_1, il_2, il_4, il_11, iv_of])
  have m0 := y_rests_m (J := J) F h2 (a := 0) (b := 0) (k := 0) (x := iv 0) (by omega) (by omega) (by omega)
  have m1 := y_rests_m (J := J) F h2 (a := 0) (b := 1) (k := 0 + 1) (x := rs1 (V 20) (iv 0) 0 0) (by omega) (by omega) (by omega)
  have m2 := y_rests_m (J := J) F h2 (a := 0 + 1) (b := 0) (k := 0 + 1 + 1) (x := rs1 (V 20) (rs1 (V 20) (iv 0) 0 0) 0 1) (by omega) (by omega) (by omega)
  have m3 := y_rests_m (J := J) F h2 (a := 0 + 1) (b := 1) (k := 0 + 1 + 1 + 1) (x := rs1 (V 20) (rs1 (V 20) (rs1 (V 20) (iv 0) 0 0) 0 1) (0 + 1) 0) (by omega) (by omega) (by omega)
  have m4 : ∀ x : Int32, rX m_M_rests m_M_rests 4 [.ref 435, .int x, .int (iv (0 + 1 + 1 + 1 + 1))] [] (em V J z) = some (.int (iv x.toInt), em V J z) := by
    intro x
    (rw [q_M_rests_4]; simp (disch := first | decide | omega | (simp (disch := first | decide | omega) only [sv_s, sv_o, ur_s, ur_e, ur_o]; omega)) only [↓reduceIte, iv_add, iv_sub, iv_mul, iv_neg, iv_ltT, iv_ltF, iv_leT, iv_leF, iv_eqT, iv_eqF, iv_div, iv_mod, ↓bnI_s, ↓bnV_s, ↓bnJ_s, ↓bnR_s, rt_e, rt_0, rt_bz, sv_s, sv_o, ur_s, ur_e, ur_o, bz_T, bz_F, nat_eqF, Nat.reduceAdd, il_0, il_1, il_2, il_4, il_31, iv_of])
  refine ⟨(rs1 (V 20) (rs1 (V 20) (rs1 (V 20) (rs1 (V 20) (iv 0) 0 0) 0 1) (0 + 1) 0) (0 + 1) 1).toInt, V, J, V, J, ?_, rfl, ?_, rfl⟩
  · show cA _ _ _ = _
    rw [q_X_rests, gd_8 F, il_0]
    exact x0.trans (x1.trans (x2 _))
  · show cA _ _ _ = _
    rw [q_M_rests, gd_435 F, il_0]
    exact m0.trans (m1.trans (m2.trans (m3.trans (m4 _))))
end
