/-! small methods, by whole numbers -/
theorem rt_bz {p : Prop} [Decidable p] {h : Mem} : rtN 1 (iv (bz p)) h = some (.int (iv (bz p)), h) := rt_e (by unfold bz; by_cases q : p <;> simp [q])
theorem bz_01 (p : Prop) [Decidable p] : bz p = 0 ∨ bz p = 1 := by unfold bz; by_cases q : p <;> simp [q]
theorem bz_eq {p q : Prop} [Decidable p] [Decidable q] (h : p ↔ q) : bz p = bz q := by
  by_cases x : p
  · rw [bz_T x, bz_T (h.mp x)]
  · rw [bz_F x, bz_F (fun y => x (h.mpr y))]
section
variable {V J : Vm} {z : Zz}
theorem y_within {v lo hi : Int} {h : Mem} (r : -2147483648 ≤ v ∧ v < 2147483648 ∧ -2147483648 ≤ lo ∧ lo < 2147483648 ∧ -2147483648 ≤ hi ∧ hi < 2147483648) : cA m_X_within [.int (iv v), .int (iv lo), .int (iv hi)] h = some (.int (iv (bz (lo ≤ v ∧ v ≤ hi))), h) := by
  by_cases h1 : lo ≤ v
  · by_cases h2 : v ≤ hi
    · simp (disch := omega) only [↓reduceIte, iv_add, iv_sub, iv_mul, iv_neg, iv_ltT, iv_ltF, iv_leT, iv_leF, iv_eqT, iv_eqF, iv_div, iv_mod, ↓bnI_s, ↓bnV_s, ↓bnJ_s, ↓bnR_s, rt_e, rt_0, rt_bz, sv_s, sv_o, ur_s, ur_e, ur_o, bz_T, bz_F, ↓q_X_within, il_0, il_1]
    · simp (disch := omega) only [↓reduceIte, iv_add, iv_sub, iv_mul, iv_neg, iv_ltT, iv_ltF, iv_leT, iv_leF, iv_eqT, iv_eqF, iv_div, iv_mod, ↓bnI_s, ↓bnV_s, ↓bnJ_s, ↓bnR_s, rt_e, rt_0, rt_bz, sv_s, sv_o, ur_s, ur_e, ur_o, bz_T, bz_F, ↓q_X_within, il_0, il_1]
  · simp (disch := omega) only [↓reduceIte, iv_add, iv_sub, iv_mul, iv_neg, iv_ltT, iv_ltF, iv_leT, iv_leF, iv_eqT, iv_eqF, iv_div, iv_mod, ↓bnI_s, ↓bnV_s, ↓bnJ_s, ↓bnR_s, rt_e, rt_0, rt_bz, sv_s, sv_o, ur_s, ur_e, ur_o, bz_T, bz_F, ↓q_X_within, il_0, il_1]
theorem y_isIn {v lo hi : Int} {h : Mem} (r : -2147483648 ≤ v ∧ v < 2147483648 ∧ -2147483648 ≤ lo ∧ lo < 2147483648 ∧ -2147483648 ≤ hi ∧ hi < 2147483648) : cA m_M_isIn [.int (iv v), .int (iv lo), .int (iv hi)] h = some (.int (iv (bz (lo ≤ v ∧ v ≤ hi))), h) := by
  by_cases h1 : lo ≤ v
  · by_cases h2 : v ≤ hi
    · simp (disch := omega) only [↓reduceIte, iv_add, iv_sub, iv_mul, iv_neg, iv_ltT, iv_ltF, iv_leT, iv_leF, iv_eqT, iv_eqF, iv_div, iv_mod, ↓bnI_s, ↓bnV_s, ↓bnJ_s, ↓bnR_s, rt_e, rt_0, rt_bz, sv_s, sv_o, ur_s, ur_e, ur_o, bz_T, bz_F, ↓q_M_isIn, il_0, il_1]
    · simp (disch := omega) only [↓reduceIte, iv_add, iv_sub, iv_mul, iv_neg, iv_ltT, iv_ltF, iv_leT, iv_leF, iv_eqT, iv_eqF, iv_div, iv_mod, ↓bnI_s, ↓bnV_s, ↓bnJ_s, ↓bnR_s, rt_e, rt_0, rt_bz, sv_s, sv_o, ur_s, ur_e, ur_o, bz_T, bz_F, ↓q_M_isIn, il_0, il_1]
  · simp (disch := omega) only [↓reduceIte, iv_add, iv_sub, iv_mul, iv_neg, iv_ltT, iv_ltF, iv_leT, iv_leF, iv_eqT, iv_eqF, iv_div, iv_mod, ↓bnI_s, ↓bnV_s, ↓bnJ_s, ↓bnR_s, rt_e, rt_0, rt_bz, sv_s, sv_o, ur_s, ur_e, ur_o, bz_T, bz_F, ↓q_M_isIn, il_0, il_1]
theorem y_max {a b : Int} {h : Mem} (r : -2147483648 ≤ a ∧ a < 2147483648 ∧ -2147483648 ≤ b ∧ b < 2147483648) : cA m_Math_max [.int (iv a), .int (iv b)] h = some (.int (iv (max a b)), h) := by
  by_cases h1 : b ≤ a
  · simp (disch := omega) only [↓reduceIte, iv_add, iv_sub, iv_mul, iv_neg, iv_ltT, iv_ltF, iv_leT, iv_leF, iv_eqT, iv_eqF, iv_div, iv_mod, ↓bnI_s, ↓bnV_s, ↓bnJ_s, ↓bnR_s, rt_e, rt_0, rt_bz, sv_s, sv_o, ur_s, ur_e, ur_o, bz_T, bz_F, ↓q_Math_max, il_0, il_1]
    rw [Int.max_eq_left h1]
  · simp (disch := omega) only [↓reduceIte, iv_add, iv_sub, iv_mul, iv_neg, iv_ltT, iv_ltF, iv_leT, iv_leF, iv_eqT, iv_eqF, iv_div, iv_mod, ↓bnI_s, ↓bnV_s, ↓bnJ_s, ↓bnR_s, rt_e, rt_0, rt_bz, sv_s, sv_o, ur_s, ur_e, ur_o, bz_T, bz_F, ↓q_Math_max, il_0, il_1]
    rw [Int.max_eq_right (by omega)]
theorem y_min {a b : Int} {h : Mem} (r : -2147483648 ≤ a ∧ a < 2147483648 ∧ -2147483648 ≤ b ∧ b < 2147483648) : cA m_Math_min [.int (iv a), .int (iv b)] h = some (.int (iv (min a b)), h) := by
  by_cases h1 : a ≤ b
  · simp (disch := omega) only [↓reduceIte, iv_add, iv_sub, iv_mul, iv_neg, iv_ltT, iv_ltF, iv_leT, iv_leF, iv_eqT, iv_eqF, iv_div, iv_mod, ↓bnI_s, ↓bnV_s, ↓bnJ_s, ↓bnR_s, rt_e, rt_0, rt_bz, sv_s, sv_o, ur_s, ur_e, ur_o, bz_T, bz_F, ↓q_Math_min, il_0, il_1]
    rw [Int.min_eq_left h1]
  · simp (disch := omega) only [↓reduceIte, iv_add, iv_sub, iv_mul, iv_neg, iv_ltT, iv_ltF, iv_leT, iv_leF, iv_eqT, iv_eqF, iv_div, iv_mod, ↓bnI_s, ↓bnV_s, ↓bnJ_s, ↓bnR_s, rt_e, rt_0, rt_bz, sv_s, sv_o, ur_s, ur_e, ur_o, bz_T, bz_F, ↓q_Math_min, il_0, il_1]
    rw [Int.min_eq_right (by omega)]
theorem y_abs {a : Int} {h : Mem} (r : -2147483648 < a ∧ a < 2147483648) : cA m_Math_abs [.int (iv a)] h = some (.int (iv (if a < 0 then -a else a)), h) := by
  by_cases h1 : a < 0
  · simp (disch := omega) only [↓reduceIte, iv_add, iv_sub, iv_mul, iv_neg, iv_ltT, iv_ltF, iv_leT, iv_leF, iv_eqT, iv_eqF, iv_div, iv_mod, ↓bnI_s, ↓bnV_s, ↓bnJ_s, ↓bnR_s, rt_e, rt_0, rt_bz, sv_s, sv_o, ur_s, ur_e, ur_o, bz_T, bz_F, ↓q_Math_abs, il_0, il_1, if_pos h1]
  · simp (disch := omega) only [↓reduceIte, iv_add, iv_sub, iv_mul, iv_neg, iv_ltT, iv_ltF, iv_leT, iv_leF, iv_eqT, iv_eqF, iv_div, iv_mod, ↓bnI_s, ↓bnV_s, ↓bnJ_s, ↓bnR_s, rt_e, rt_0, rt_bz, sv_s, sv_o, ur_s, ur_e, ur_o, bz_T, bz_F, ↓q_Math_abs, il_0, il_1, if_neg h1]
/-- what get answers -/
def rd (A : Int → Int) (n i : Int) : Int := if 0 ≤ i ∧ i < n then A i else 0
theorem rd_in {A : Int → Int} {n i : Int} (h : 0 ≤ i ∧ i < n) : rd A n i = A i := if_pos h
theorem rd_out {A : Int → Int} {n i : Int} (h : ¬ (0 ≤ i ∧ i < n)) : rd A n i = 0 := if_neg h
/-- what put leaves -/
def pt (V : Vm) (a : Nat) (n i x : Int) : Vm := if 0 ≤ i ∧ i < n then sv V a i x else V
theorem pt_in {V : Vm} {a : Nat} {n i x : Int} (h : 0 ≤ i ∧ i < n) : pt V a n i x = sv V a i x := if_pos h
theorem pt_out {V : Vm} {a : Nat} {n i x : Int} (h : ¬ (0 ≤ i ∧ i < n)) : pt V a n i x = V := if_neg h
theorem y_get {a n : Nat} {i : Int} (s : z.2.1 a = (1, n)) (hn : n < 2147483648) (hi : -2147483648 ≤ i ∧ i < 2147483648) : cA m_X_get [.ref a, .int (iv i)] (em V J z) = some (.int (iv (rd (V a) n i)), em V J z) := by
  rw [q_X_get, il_0]
  by_cases h1 : 0 ≤ i
  · rw [if_pos (of_eq_true (iv_leT (by omega))), alN_e s rfl]
    by_cases h2 : i < n
    · rw [if_pos (of_eq_true (iv_ltT (by omega))), ldI_e s ⟨h1, h2⟩ hn, rd_in ⟨h1, h2⟩]
    · rw [if_neg (of_eq_false (iv_ltF (by omega))), rd_out (by omega)]
  · rw [if_neg (of_eq_false (iv_leF (by omega))), rd_out (by omega)]
theorem y_put {a n : Nat} {i x : Int} (s : z.2.1 a = (1, n)) (hn : n < 2147483648) (hi : -2147483648 ≤ i ∧ i < 2147483648) : cA m_X_put [.ref a, .int (iv i), .int (iv x)] (em V J z) = some (.null, em (pt V a n i x) J z) := by
  rw [q_X_put, il_0]
  by_cases h1 : 0 ≤ i
  · rw [if_pos (of_eq_true (iv_leT (by omega))), alN_e s rfl]
    by_cases h2 : i < n
    · rw [if_pos (of_eq_true (iv_ltT (by omega))), stI_e s ⟨h1, h2⟩ hn, pt_in ⟨h1, h2⟩]
    · rw [if_neg (of_eq_false (iv_ltF (by omega))), pt_out (by omega)]
  · rw [if_neg (of_eq_false (iv_leF (by omega))), pt_out (by omega)]
/-! the model's -/
theorem y_isKin (F : Fix z) {k : Int} (hk : -2147483648 ≤ k ∧ k < 2147483648) (hn : 0 ≤ V 436 0 ∧ V 436 0 ≤ 6) : cA m_M_isKin [.ref 435, .int (iv k)] (em V J z) = some (.int (iv (bz (0 ≤ k ∧ k ≤ V 436 0 - 1))), em V J z) := by
  simp (disch := omega) only [↓reduceIte, iv_add, iv_sub, iv_mul, iv_neg, iv_ltT, iv_ltF, iv_leT, iv_leF, iv_eqT, iv_eqF, iv_div, iv_mod, ↓bnI_s, ↓bnV_s, ↓bnJ_s, ↓bnR_s, rt_e, rt_0, rt_bz, sv_s, sv_o, ur_s, ur_e, ur_o, bz_T, bz_F, ↓q_M_isKin, ↓gR_435_0 F, ↓lI_436 F, ↓lI_437 F, ↓lI_438 F, ↓lI_439 F, ↓lI_440 F, ↓lI_441 F, ↓lI_443 F, ↓lI_444 F, ↓lI_445 F, ↓lI_446 F, ↓lI_447 F, ↓lI_448 F, ↓lI_449 F, ↓lI_450 F, ↓gd_435 F, il_0, il_1, il_11, il_27, y_isIn]
theorem y_M_hedge (F : Fix z) {c s : Int} (hc : -2147483648 ≤ c ∧ c < 2147483648) (hs : -2147483648 ≤ s ∧ s < 2147483648) : cA m_M_hedge [.ref 435, .int (iv c), .int (iv s)] (em V J z) = some (.int (iv (bz ((0 ≤ c ∧ c ≤ 35) ∧ (0 ≤ s ∧ s ≤ 3)))), em (if (0 ≤ c ∧ c ≤ 35) ∧ (0 ≤ s ∧ s ≤ 3) then sv V 436 (71 + c) s else V) J z) := by
  by_cases h1 : 0 ≤ c ∧ c ≤ 35
  · by_cases h2 : 0 ≤ s ∧ s ≤ 3
    · rw [if_pos ⟨h1, h2⟩]
      simp (disch := omega) only [↓reduceIte, iv_add, iv_sub, iv_mul, iv_neg, iv_ltT, iv_ltF, iv_leT, iv_leF, iv_eqT, iv_eqF, iv_div, iv_mod, ↓bnI_s, ↓bnV_s, ↓bnJ_s, ↓bnR_s, rt_e, rt_0, rt_bz, sv_s, sv_o, ur_s, ur_e, ur_o, bz_T, bz_F, ↓q_M_hedge, ↓gR_435_0 F, ↓sI_436 F, ↓sI_437 F, ↓sI_438 F, ↓sI_439 F, ↓sI_440 F, ↓sI_441 F, ↓sI_443 F, ↓sI_444 F, ↓sI_445 F, ↓sI_446 F, ↓sI_447 F, ↓sI_448 F, ↓sI_449 F, ↓sI_450 F, ↓gd_435 F, il_0, il_1, il_3, il_11, il_27, il_35, il_71, y_isIn]
    · rw [if_neg (fun q => h2 q.2)]
      simp (disch := omega) only [↓reduceIte, iv_add, iv_sub, iv_mul, iv_neg, iv_ltT, iv_ltF, iv_leT, iv_leF, iv_eqT, iv_eqF, iv_div, iv_mod, ↓bnI_s, ↓bnV_s, ↓bnJ_s, ↓bnR_s, rt_e, rt_0, rt_bz, sv_s, sv_o, ur_s, ur_e, ur_o, bz_T, bz_F, ↓q_M_hedge, ↓gR_435_0 F, ↓sI_436 F, ↓sI_437 F, ↓sI_438 F, ↓sI_439 F, ↓sI_440 F, ↓sI_441 F, ↓sI_443 F, ↓sI_444 F, ↓sI_445 F, ↓sI_446 F, ↓sI_447 F, ↓sI_448 F, ↓sI_449 F, ↓sI_450 F, ↓gd_435 F, il_0, il_1, il_3, il_11, il_27, il_35, il_71, y_isIn]
  · rw [if_neg (fun q => h1 q.1)]
    simp (disch := omega) only [↓reduceIte, iv_add, iv_sub, iv_mul, iv_neg, iv_ltT, iv_ltF, iv_leT, iv_leF, iv_eqT, iv_eqF, iv_div, iv_mod, ↓bnI_s, ↓bnV_s, ↓bnJ_s, ↓bnR_s, rt_e, rt_0, rt_bz, sv_s, sv_o, ur_s, ur_e, ur_o, bz_T, bz_F, ↓q_M_hedge, ↓gR_435_0 F, ↓sI_436 F, ↓sI_437 F, ↓sI_438 F, ↓sI_439 F, ↓sI_440 F, ↓sI_441 F, ↓sI_443 F, ↓sI_444 F, ↓sI_445 F, ↓sI_446 F, ↓sI_447 F, ↓sI_448 F, ↓sI_449 F, ↓sI_450 F, ↓gd_435 F, il_0, il_1, il_3, il_11, il_27, il_35, il_71, y_isIn]
theorem y_X_hedge (F : Fix z) {c s : Int} (hc : -2147483648 ≤ c ∧ c < 2147483648) (hs : -2147483648 ≤ s ∧ s < 2147483648) : cA m_X_hedge [.ref 8, .int (iv c), .int (iv s)] (em V J z) = some (.int (iv (bz ((0 ≤ c ∧ c ≤ 35) ∧ (0 ≤ s ∧ s ≤ 3)))), em (if (0 ≤ c ∧ c ≤ 35) ∧ (0 ≤ s ∧ s ≤ 3) then sv V 19 c s else V) J z) := by
  by_cases h1 : 0 ≤ c ∧ c ≤ 35
  · by_cases h2 : 0 ≤ s ∧ s ≤ 3
    · rw [if_pos ⟨h1, h2⟩]
      simp (disch := omega) only [↓reduceIte, iv_add, iv_sub, iv_mul, iv_neg, iv_ltT, iv_ltF, iv_leT, iv_leF, iv_eqT, iv_eqF, iv_div, iv_mod, ↓bnI_s, ↓bnV_s, ↓bnJ_s, ↓bnR_s, rt_e, rt_0, rt_bz, sv_s, sv_o, ur_s, ur_e, ur_o, bz_T, bz_F, ↓q_X_hedge, ↓gR_8_0 F, ↓gR_9_4 F, ↓gd_8 F, il_0, il_1, il_2, il_3, il_4, il_10, il_26, il_35, y_within, y_put (s_19 F) (by decide), pt_in]
    · rw [if_neg (fun q => h2 q.2)]
      simp (disch := omega) only [↓reduceIte, iv_add, iv_sub, iv_mul, iv_neg, iv_ltT, iv_ltF, iv_leT, iv_leF, iv_eqT, iv_eqF, iv_div, iv_mod, ↓bnI_s, ↓bnV_s, ↓bnJ_s, ↓bnR_s, rt_e, rt_0, rt_bz, sv_s, sv_o, ur_s, ur_e, ur_o, bz_T, bz_F, ↓q_X_hedge, ↓gR_8_0 F, ↓gR_9_4 F, ↓gd_8 F, il_0, il_1, il_2, il_3, il_4, il_10, il_26, il_35, y_within]
  · rw [if_neg (fun q => h1 q.1)]
    simp (disch := omega) only [↓reduceIte, iv_add, iv_sub, iv_mul, iv_neg, iv_ltT, iv_ltF, iv_leT, iv_leF, iv_eqT, iv_eqF, iv_div, iv_mod, ↓bnI_s, ↓bnV_s, ↓bnJ_s, ↓bnR_s, rt_e, rt_0, rt_bz, sv_s, sv_o, ur_s, ur_e, ur_o, bz_T, bz_F, ↓q_X_hedge, ↓gR_8_0 F, ↓gR_9_4 F, ↓gd_8 F, il_0, il_1, il_2, il_3, il_4, il_10, il_26, il_35, y_within]
end
