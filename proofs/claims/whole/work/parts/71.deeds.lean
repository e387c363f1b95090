/-! the deeds: reach, down, strap, swap -/
section
variable {V J : Vm} {z : Zz}
theorem y_canReach {t : Nat} (T : Tab z t) {A : Int → Int} {k : Int} (hk : (-2147483648 ≤ k ∧ k < 2147483648)) (n1 : V t 5 = A 0) (n2 : 0 ≤ A 0 ∧ A 0 ≤ 6) (x6 : V t 6 = A 10) : cA m_Table_canReach [.ref t, .int (iv k)] (em V J z) = some (.int (iv (bz ((0 ≤ k ∧ k < A 0) ∧ ¬ sb (A 10) k))), em V J z) := by
  by_cases h1 : 0 ≤ k ∧ k < A 0
  · by_cases h2 : sb (A 10) k
    · rw [bz_F (p := (0 ≤ k ∧ k < A 0) ∧ ¬ sb (A 10) k) (fun h => h.2 h2)]
      simp (disch := first | decide | omega | (simp (disch := first | decide | omega) only [sv_s, sv_o, ur_s, ur_e, ur_o]; omega)) only [↓reduceIte, iv_add, iv_sub, iv_mul, iv_neg, iv_ltT, iv_ltF, iv_leT, iv_leF, iv_eqT, iv_eqF, iv_div, iv_mod, ↓bnI_s, ↓bnV_s, ↓bnJ_s, ↓bnR_s, rt_e, rt_0, rt_bz, sv_s, sv_o, ur_s, ur_e, ur_o, bz_T, bz_F, nat_eqF, Nat.reduceAdd, ↓q_Table_canReach, ↓gdT T, il_0, il_1, il_23, y_has T, y_isStrapped T, n1, x6, bz_T h1, bz_T h2]
    · rw [bz_T (p := (0 ≤ k ∧ k < A 0) ∧ ¬ sb (A 10) k) ⟨h1, h2⟩]
      simp (disch := first | decide | omega | (simp (disch := first | decide | omega) only [sv_s, sv_o, ur_s, ur_e, ur_o]; omega)) only [↓reduceIte, iv_add, iv_sub, iv_mul, iv_neg, iv_ltT, iv_ltF, iv_leT, iv_leF, iv_eqT, iv_eqF, iv_div, iv_mod, ↓bnI_s, ↓bnV_s, ↓bnJ_s, ↓bnR_s, rt_e, rt_0, rt_bz, sv_s, sv_o, ur_s, ur_e, ur_o, bz_T, bz_F, nat_eqF, Nat.reduceAdd, ↓q_Table_canReach, ↓gdT T, il_0, il_1, il_23, y_has T, y_isStrapped T, n1, x6, bz_T h1, bz_F h2]
  · rw [bz_F (p := (0 ≤ k ∧ k < A 0) ∧ ¬ sb (A 10) k) (fun h => h1 h.1)]
    simp (disch := first | decide | omega | (simp (disch := first | decide | omega) only [sv_s, sv_o, ur_s, ur_e, ur_o]; omega)) only [↓reduceIte, iv_add, iv_sub, iv_mul, iv_neg, iv_ltT, iv_ltF, iv_leT, iv_leF, iv_eqT, iv_eqF, iv_div, iv_mod, ↓bnI_s, ↓bnV_s, ↓bnJ_s, ↓bnR_s, rt_e, rt_0, rt_bz, sv_s, sv_o, ur_s, ur_e, ur_o, bz_T, bz_F, nat_eqF, Nat.reduceAdd, ↓q_Table_canReach, ↓gdT T, il_0, il_1, il_23, y_has T, n1, bz_F h1]
theorem y_turnStrap {t : Nat} (T : Tab z t) {k : Int} : cA m_Table_turnStrap [.ref t, .int (iv k)] (em V J z) = some (.null, em (sv V t 6 (sx (V t 6) k)) J z) := by
  simp (disch := first | decide | omega | (simp (disch := first | decide | omega) only [sv_s, sv_o, ur_s, ur_e, ur_o]; omega)) only [↓reduceIte, iv_add, iv_sub, iv_mul, iv_neg, iv_ltT, iv_ltF, iv_leT, iv_leF, iv_eqT, iv_eqF, iv_div, iv_mod, ↓bnI_s, ↓bnV_s, ↓bnJ_s, ↓bnR_s, rt_e, rt_0, rt_bz, sv_s, sv_o, ur_s, ur_e, ur_o, bz_T, bz_F, nat_eqF, Nat.reduceAdd, ↓q_Table_turnStrap, ↓gT_6 T, ↓pT_6 T, ↓gdT T, il_0, il_1, il_6, il_7, il_23, il_31, sx_iv]
theorem y_keepOne {t : Nat} (T : Tab z t) {k x : Int} (hk : 0 ≤ k ∧ k < 6) (e : V (t + 2) k = x) (hx : 0 ≤ x ∧ x ≤ 99) : cA m_Table_keepOneMore [.ref t, .int (iv k)] (em V J z) = some (.int (iv (min (x + 1) 99)), em (sv V (t + 2) k (min (x + 1) 99)) J z) := by
  simp (disch := first | decide | omega | (simp (disch := first | decide | omega) only [sv_s, sv_o, ur_s, ur_e, ur_o]; omega)) only [↓reduceIte, iv_add, iv_sub, iv_mul, iv_neg, iv_ltT, iv_ltF, iv_leT, iv_leF, iv_eqT, iv_eqF, iv_div, iv_mod, ↓bnI_s, ↓bnV_s, ↓bnJ_s, ↓bnR_s, rt_e, rt_0, rt_bz, sv_s, sv_o, ur_s, ur_e, ur_o, bz_T, bz_F, nat_eqF, Nat.reduceAdd, ↓q_Table_keepOneMore, ↓rT_1 T, ↓gdT T, il_0, il_1, il_7, il_23, il_99, y_get T.s2 (by decide), y_put T.s2 (by decide), rd_in, pt_in, e, y_min]
theorem y_held {x lo hi : Int} {h : Mem} (hx : -1000000 ≤ x ∧ x ≤ 1000000) (hl : -1000000 ≤ lo ∧ lo ≤ hi ∧ hi ≤ 1000000) : cA m_M_held [.long (jv x), .int (iv lo), .int (iv hi)] h = some (.int (iv (if x < lo then lo else if hi < x then hi else x)), h) := by
  by_cases h1 : x < lo
  · rw [if_pos h1]
    simp (disch := first | decide | omega | (simp (disch := first | decide | omega) only [sv_s, sv_o, ur_s, ur_e, ur_o]; omega)) only [↓reduceIte, iv_add, iv_sub, iv_mul, iv_neg, iv_ltT, iv_ltF, iv_leT, iv_leF, iv_eqT, iv_eqF, iv_div, iv_mod, ↓bnI_s, ↓bnV_s, ↓bnJ_s, ↓bnR_s, rt_e, rt_0, rt_bz, sv_s, sv_o, ur_s, ur_e, ur_o, bz_T, bz_F, nat_eqF, Nat.reduceAdd, ↓q_M_held, il_0, il_1, iv_long, jc_lt (a := x) (b := lo)]
  · rw [if_neg h1]
    by_cases h2 : hi < x
    · rw [if_pos h2]
      simp (disch := first | decide | omega | (simp (disch := first | decide | omega) only [sv_s, sv_o, ur_s, ur_e, ur_o]; omega)) only [↓reduceIte, iv_add, iv_sub, iv_mul, iv_neg, iv_ltT, iv_ltF, iv_leT, iv_leF, iv_eqT, iv_eqF, iv_div, iv_mod, ↓bnI_s, ↓bnV_s, ↓bnJ_s, ↓bnR_s, rt_e, rt_0, rt_bz, sv_s, sv_o, ur_s, ur_e, ur_o, bz_T, bz_F, nat_eqF, Nat.reduceAdd, ↓q_M_held, il_0, il_1, iv_long, jc_gt (a := x) (b := lo), jc_gt (a := x) (b := hi)]
    · rw [if_neg h2]
      by_cases h3 : x = lo
      · by_cases h4 : x = hi
        · simp (disch := first | decide | omega | (simp (disch := first | decide | omega) only [sv_s, sv_o, ur_s, ur_e, ur_o]; omega)) only [↓reduceIte, iv_add, iv_sub, iv_mul, iv_neg, iv_ltT, iv_ltF, iv_leT, iv_leF, iv_eqT, iv_eqF, iv_div, iv_mod, ↓bnI_s, ↓bnV_s, ↓bnJ_s, ↓bnR_s, rt_e, rt_0, rt_bz, sv_s, sv_o, ur_s, ur_e, ur_o, bz_T, bz_F, nat_eqF, Nat.reduceAdd, ↓q_M_held, il_0, il_1, iv_long, jc_eq (a := x) (b := lo), jc_eq (a := x) (b := hi), jv_int]
        · simp (disch := first | decide | omega | (simp (disch := first | decide | omega) only [sv_s, sv_o, ur_s, ur_e, ur_o]; omega)) only [↓reduceIte, iv_add, iv_sub, iv_mul, iv_neg, iv_ltT, iv_ltF, iv_leT, iv_leF, iv_eqT, iv_eqF, iv_div, iv_mod, ↓bnI_s, ↓bnV_s, ↓bnJ_s, ↓bnR_s, rt_e, rt_0, rt_bz, sv_s, sv_o, ur_s, ur_e, ur_o, bz_T, bz_F, nat_eqF, Nat.reduceAdd, ↓q_M_held, il_0, il_1, iv_long, jc_eq (a := x) (b := lo), jc_lt (a := x) (b := hi), jv_int]
      · by_cases h4 : x = hi
        · simp (disch := first | decide | omega | (simp (disch := first | decide | omega) only [sv_s, sv_o, ur_s, ur_e, ur_o]; omega)) only [↓reduceIte, iv_add, iv_sub, iv_mul, iv_neg, iv_ltT, iv_ltF, iv_leT, iv_leF, iv_eqT, iv_eqF, iv_div, iv_mod, ↓bnI_s, ↓bnV_s, ↓bnJ_s, ↓bnR_s, rt_e, rt_0, rt_bz, sv_s, sv_o, ur_s, ur_e, ur_o, bz_T, bz_F, nat_eqF, Nat.reduceAdd, ↓q_M_held, il_0, il_1, iv_long, jc_gt (a := x) (b := lo), jc_eq (a := x) (b := hi), jv_int]
        · simp (disch := first | decide | omega | (simp (disch := first | decide | omega) only [sv_s, sv_o, ur_s, ur_e, ur_o]; omega)) only [↓reduceIte, iv_add, iv_sub, iv_mul, iv_neg, iv_ltT, iv_ltF, iv_leT, iv_leF, iv_eqT, iv_eqF, iv_div, iv_mod, ↓bnI_s, ↓bnV_s, ↓bnJ_s, ↓bnR_s, rt_e, rt_0, rt_bz, sv_s, sv_o, ur_s, ur_e, ur_o, bz_T, bz_F, nat_eqF, Nat.reduceAdd, ↓q_M_held, il_0, il_1, iv_long, jc_gt (a := x) (b := lo), jc_lt (a := x) (b := hi), jv_int]
theorem y_more (F : Fix z) {k x : Int} (hk : 0 ≤ k ∧ k < 6) (e : V 436 (11 + k) = x) (hx : 0 ≤ x ∧ x ≤ 99) : cA m_M_more [.ref 435, .int (iv k)] (em V J z) = some (.null, em (sv V 436 (11 + k) (min (x + 1) 99)) J z) := by
  have w : cA m_M_held [.long (jv (x + 1)), .int (iv 0), .int (iv 99)] (em V J z) = some (.int (iv (min (x + 1) 99)), em V J z) := by
    rw [y_held (by omega) (by omega)]
    by_cases q : 99 < x + 1
    · rw [if_neg (by omega), if_pos q, Int.min_eq_right (by omega)]
    · rw [if_neg (by omega), if_neg q, Int.min_eq_left (by omega)]
  simp (disch := first | decide | omega | (simp (disch := first | decide | omega) only [sv_s, sv_o, ur_s, ur_e, ur_o]; omega)) only [↓reduceIte, iv_add, iv_sub, iv_mul, iv_neg, iv_ltT, iv_ltF, iv_leT, iv_leF, iv_eqT, iv_eqF, iv_div, iv_mod, ↓bnI_s, ↓bnV_s, ↓bnJ_s, ↓bnR_s, rt_e, rt_0, rt_bz, sv_s, sv_o, ur_s, ur_e, ur_o, bz_T, bz_F, nat_eqF, Nat.reduceAdd, ↓q_M_more, ↓gR_435_0 F, ↓lI_436 F, ↓lI_437 F, ↓lI_438 F, ↓lI_439 F, ↓lI_440 F, ↓lI_441 F, ↓lI_443 F, ↓lI_444 F, ↓lI_445 F, ↓lI_446 F, ↓lI_447 F, ↓lI_448 F, ↓lI_449 F, ↓lI_450 F, ↓sI_436 F, ↓sI_437 F, ↓sI_438 F, ↓sI_439 F, ↓sI_440 F, ↓sI_441 F, ↓sI_443 F, ↓sI_444 F, ↓sI_445 F, ↓sI_446 F, ↓sI_447 F, ↓sI_448 F, ↓sI_449 F, ↓sI_450 F, ↓gd_435 F, il_0, il_1, il_11, il_27, il_99, e, iv_long, w]
theorem y_swapSeats {t : Nat} (T : Tab z t) {a b x y : Int} (ha : 0 ≤ a ∧ a < 6) (hb : 0 ≤ b ∧ b < 6) (ea : V (t + 3) a = x) (eb : V (t + 3) b = y) (hx : 0 ≤ x ∧ x < 6) (hy : 0 ≤ y ∧ y < 6) : cA m_Table_swapSeats [.ref t, .int (iv a), .int (iv b)] (em V J z) = some (.null, em (sv (sv (sv (sv V (t + 3) a y) (t + 3) b x) (t + 4) x b) (t + 4) y a) J z) := by
  simp (disch := first | decide | omega | (simp (disch := first | decide | omega) only [sv_s, sv_o, ur_s, ur_e, ur_o]; omega)) only [↓reduceIte, iv_add, iv_sub, iv_mul, iv_neg, iv_ltT, iv_ltF, iv_leT, iv_leF, iv_eqT, iv_eqF, iv_div, iv_mod, ↓bnI_s, ↓bnV_s, ↓bnJ_s, ↓bnR_s, rt_e, rt_0, rt_bz, sv_s, sv_o, ur_s, ur_e, ur_o, bz_T, bz_F, nat_eqF, Nat.reduceAdd, ↓q_Table_swapSeats, ↓rT_2 T, ↓rT_3 T, ↓gdT T, il_0, il_1, il_2, il_3, il_7, il_23, y_get T.s3 (by decide), y_put T.s3 (by decide), y_put T.s4 (by decide), rd_in, pt_in, ea, eb]
end
section
variable {V0 : Vm} {z : Zz}
theorem d_strap (F : Fix z) {k : Int} (hk : (-2147483648 ≤ k ∧ k < 2147483648)) : Dd z V0 (fun h => cA m_X_strap [.ref 8, .int (iv k)] h) (fun h => cA m_M_strap [.ref 435, .int (iv k)] h) := by
  intro V J A m
  have T := T10 F
  have ks := m.2.1
  obtain ⟨n1, n2, n3, m4⟩ := ks.1
  have n1 : V 10 5 = A 0 := n1
  have s2 := ks.2.2.1
  by_cases h1 : 0 ≤ k ∧ k < A 0
  · obtain ⟨V1, e1, e2, k1, l1⟩ := y_saveA (J := J) F ks
    have x6 : V 10 6 = A 10 := m4.2.2.1.1
    have xr := m4.2.2.1.2
    have v6 : V1 10 6 = A 10 := (e2 10 6 (by omega) (by omega)).trans x6
    have b0 := keepA_o s2 (show (0 : Int) ≠ 3 by omega) (by omega)
    have b10 := keepA_o s2 (show (10 : Int) ≠ 3 by omega) (by omega)
    have t0 := k1.1.2.2.2
    rw [b0] at t0
    have md : Mid V0 (sv V1 10 6 (sx (A 10) k)) (ur (keepA A) 10 (sx (A 10) k)) := by
      refine (m.turn e2 k1 l1 (fun a j _ h => by simp (disch := first | decide | omega | (simp (disch := first | decide | omega) only [sv_s, sv_o, ur_s, ur_e, ur_o]; omega)) only [↓reduceIte, iv_add, iv_sub, iv_mul, iv_neg, iv_ltT, iv_ltF, iv_leT, iv_leF, iv_eqT, iv_eqF, iv_div, iv_mod, ↓bnI_s, ↓bnV_s, ↓bnJ_s, ↓bnR_s, rt_e, rt_0, rt_bz, sv_s, sv_o, ur_s, ur_e, ur_o, bz_T, bz_F, nat_eqF, Nat.reduceAdd]) (by simp (disch := first | decide | omega | (simp (disch := first | decide | omega) only [sv_s, sv_o, ur_s, ur_e, ur_o]; omega)) only [↓reduceIte, iv_add, iv_sub, iv_mul, iv_neg, iv_ltT, iv_ltF, iv_leT, iv_leF, iv_eqT, iv_eqF, iv_div, iv_mod, ↓bnI_s, ↓bnV_s, ↓bnJ_s, ↓bnR_s, rt_e, rt_0, rt_bz, sv_s, sv_o, ur_s, ur_e, ur_o, bz_T, bz_F, nat_eqF, Nat.reduceAdd]) (by simp (disch := first | decide | omega | (simp (disch := first | decide | omega) only [sv_s, sv_o, ur_s, ur_e, ur_o]; omega)) only [↓reduceIte, iv_add, iv_sub, iv_mul, iv_neg, iv_ltT, iv_ltF, iv_leT, iv_leF, iv_eqT, iv_eqF, iv_div, iv_mod, ↓bnI_s, ↓bnV_s, ↓bnJ_s, ↓bnR_s, rt_e, rt_0, rt_bz, sv_s, sv_o, ur_s, ur_e, ur_o, bz_T, bz_F, nat_eqF, Nat.reduceAdd]) (fun j hj => ur_o (by omega)) ?_).1
      refine Tr_own t0 n2.2 (Or.inl ⟨rfl, sx_r xr ⟨h1.1, by omega⟩⟩) ?_ ?_ ?_ ?_ ?_
      · rw [if_pos rfl]; simp (disch := first | decide | omega | (simp (disch := first | decide | omega) only [sv_s, sv_o, ur_s, ur_e, ur_o]; omega)) only [↓reduceIte, iv_add, iv_sub, iv_mul, iv_neg, iv_ltT, iv_ltF, iv_leT, iv_leF, iv_eqT, iv_eqF, iv_div, iv_mod, ↓bnI_s, ↓bnV_s, ↓bnJ_s, ↓bnR_s, rt_e, rt_0, rt_bz, sv_s, sv_o, ur_s, ur_e, ur_o, bz_T, bz_F, nat_eqF, Nat.reduceAdd]
      · simp (disch := first | decide | omega | (simp (disch := first | decide | omega) only [sv_s, sv_o, ur_s, ur_e, ur_o]; omega)) only [↓reduceIte, iv_add, iv_sub, iv_mul, iv_neg, iv_ltT, iv_ltF, iv_leT, iv_leF, iv_eqT, iv_eqF, iv_div, iv_mod, ↓bnI_s, ↓bnV_s, ↓bnJ_s, ↓bnR_s, rt_e, rt_0, rt_bz, sv_s, sv_o, ur_s, ur_e, ur_o, bz_T, bz_F, nat_eqF, Nat.reduceAdd]
      · simp (disch := first | decide | omega | (simp (disch := first | decide | omega) only [sv_s, sv_o, ur_s, ur_e, ur_o]; omega)) only [↓reduceIte, iv_add, iv_sub, iv_mul, iv_neg, iv_ltT, iv_ltF, iv_leT, iv_leF, iv_eqT, iv_eqF, iv_div, iv_mod, ↓bnI_s, ↓bnV_s, ↓bnJ_s, ↓bnR_s, rt_e, rt_0, rt_bz, sv_s, sv_o, ur_s, ur_e, ur_o, bz_T, bz_F, nat_eqF, Nat.reduceAdd]
      · simp (disch := first | decide | omega | (simp (disch := first | decide | omega) only [sv_s, sv_o, ur_s, ur_e, ur_o]; omega)) only [↓reduceIte, iv_add, iv_sub, iv_mul, iv_neg, iv_ltT, iv_ltF, iv_leT, iv_leF, iv_eqT, iv_eqF, iv_div, iv_mod, ↓bnI_s, ↓bnV_s, ↓bnJ_s, ↓bnR_s, rt_e, rt_0, rt_bz, sv_s, sv_o, ur_s, ur_e, ur_o, bz_T, bz_F, nat_eqF, Nat.reduceAdd]
      · simp (disch := first | decide | omega | (simp (disch := first | decide | omega) only [sv_s, sv_o, ur_s, ur_e, ur_o]; omega)) only [↓reduceIte, iv_add, iv_sub, iv_mul, iv_neg, iv_ltT, iv_ltF, iv_leT, iv_leF, iv_eqT, iv_eqF, iv_div, iv_mod, ↓bnI_s, ↓bnV_s, ↓bnJ_s, ↓bnR_s, rt_e, rt_0, rt_bz, sv_s, sv_o, ur_s, ur_e, ur_o, bz_T, bz_F, nat_eqF, Nat.reduceAdd]
    refine ⟨1, _, _, J, ?_, md, by omega, fun U K hU _ _ => ?_⟩
    · simp (disch := first | decide | omega | (simp (disch := first | decide | omega) only [sv_s, sv_o, ur_s, ur_e, ur_o]; omega)) only [↓reduceIte, iv_add, iv_sub, iv_mul, iv_neg, iv_ltT, iv_ltF, iv_leT, iv_leF, iv_eqT, iv_eqF, iv_div, iv_mod, ↓bnI_s, ↓bnV_s, ↓bnJ_s, ↓bnR_s, rt_e, rt_0, rt_bz, sv_s, sv_o, ur_s, ur_e, ur_o, bz_T, bz_F, nat_eqF, Nat.reduceAdd, ↓q_X_strap, ↓gR_8_0 F, ↓gR_9_0 F, ↓gd_8 F, il_0, il_1, il_2, il_10, il_26, y_has T, n1, bz_T h1, e1, y_turnStrap T, v6]
    · obtain ⟨U', f1, f2, f3⟩ := y_keepA (V := U) (J := K) F (by rw [hU]; exact s2)
      rw [hU] at f3
      have q : cA m_M_isKin [.ref 435, .int (iv k)] (em U K z) = some (.int (iv 1), em U K z) := by
        rw [y_isKin F hk (by rw [hU]; exact n2), bz_T (by rw [hU]; omega)]
      refine ⟨sv U' 436 10 (sx (A 10) k), K, ?_, by simp (disch := first | decide | omega | (simp (disch := first | decide | omega) only [sv_s, sv_o, ur_s, ur_e, ur_o]; omega)) only [↓reduceIte, iv_add, iv_sub, iv_mul, iv_neg, iv_ltT, iv_ltF, iv_leT, iv_leF, iv_eqT, iv_eqF, iv_div, iv_mod, ↓bnI_s, ↓bnV_s, ↓bnJ_s, ↓bnR_s, rt_e, rt_0, rt_bz, sv_s, sv_o, ur_s, ur_e, ur_o, bz_T, bz_F, nat_eqF, Nat.reduceAdd, f3], fun a j _ h => by simp (disch := first | decide | omega | (simp (disch := first | decide | omega) only [sv_s, sv_o, ur_s, ur_e, ur_o]; omega)) only [↓reduceIte, iv_add, iv_sub, iv_mul, iv_neg, iv_ltT, iv_ltF, iv_leT, iv_leF, iv_eqT, iv_eqF, iv_div, iv_mod, ↓bnI_s, ↓bnV_s, ↓bnJ_s, ↓bnR_s, rt_e, rt_0, rt_bz, sv_s, sv_o, ur_s, ur_e, ur_o, bz_T, bz_F, nat_eqF, Nat.reduceAdd, f2 a h]⟩
      simp (disch := first | decide | omega | (simp (disch := first | decide | omega) only [sv_s, sv_o, ur_s, ur_e, ur_o]; omega)) only [↓reduceIte, iv_add, iv_sub, iv_mul, iv_neg, iv_ltT, iv_ltF, iv_leT, iv_leF, iv_eqT, iv_eqF, iv_div, iv_mod, ↓bnI_s, ↓bnV_s, ↓bnJ_s, ↓bnR_s, rt_e, rt_0, rt_bz, sv_s, sv_o, ur_s, ur_e, ur_o, bz_T, bz_F, nat_eqF, Nat.reduceAdd, ↓q_M_strap, ↓gR_435_0 F, ↓lI_436 F, ↓lI_437 F, ↓lI_438 F, ↓lI_439 F, ↓lI_440 F, ↓lI_441 F, ↓lI_443 F, ↓lI_444 F, ↓lI_445 F, ↓lI_446 F, ↓lI_447 F, ↓lI_448 F, ↓lI_449 F, ↓lI_450 F, ↓sI_436 F, ↓sI_437 F, ↓sI_438 F, ↓sI_439 F, ↓sI_440 F, ↓sI_441 F, ↓sI_443 F, ↓sI_444 F, ↓sI_445 F, ↓sI_446 F, ↓sI_447 F, ↓sI_448 F, ↓sI_449 F, ↓sI_450 F, ↓gd_435 F, il_0, il_1, il_10, il_11, il_27, il_31, q, f1, f3, b10, sx_iv]
  · refine ⟨0, A, V, J, ?_, m, by omega, fun U K hU _ _ => ⟨U, K, ?_, hU, frM.rfl_⟩⟩
    · simp (disch := first | decide | omega | (simp (disch := first | decide | omega) only [sv_s, sv_o, ur_s, ur_e, ur_o]; omega)) only [↓reduceIte, iv_add, iv_sub, iv_mul, iv_neg, iv_ltT, iv_ltF, iv_leT, iv_leF, iv_eqT, iv_eqF, iv_div, iv_mod, ↓bnI_s, ↓bnV_s, ↓bnJ_s, ↓bnR_s, rt_e, rt_0, rt_bz, sv_s, sv_o, ur_s, ur_e, ur_o, bz_T, bz_F, nat_eqF, Nat.reduceAdd, ↓q_X_strap, ↓gR_8_0 F, ↓gR_9_0 F, ↓gd_8 F, il_0, il_1, il_2, il_10, il_26, y_has T, n1, bz_F h1]
    · have q : cA m_M_isKin [.ref 435, .int (iv k)] (em U K z) = some (.int (iv 0), em U K z) := by
        rw [y_isKin F hk (by rw [hU]; exact n2), bz_F (by rw [hU]; omega)]
      simp (disch := first | decide | omega | (simp (disch := first | decide | omega) only [sv_s, sv_o, ur_s, ur_e, ur_o]; omega)) only [↓reduceIte, iv_add, iv_sub, iv_mul, iv_neg, iv_ltT, iv_ltF, iv_leT, iv_leF, iv_eqT, iv_eqF, iv_div, iv_mod, ↓bnI_s, ↓bnV_s, ↓bnJ_s, ↓bnR_s, rt_e, rt_0, rt_bz, sv_s, sv_o, ur_s, ur_e, ur_o, bz_T, bz_F, nat_eqF, Nat.reduceAdd, ↓q_M_strap, ↓gR_435_0 F, ↓lI_436 F, ↓lI_437 F, ↓lI_438 F, ↓lI_439 F, ↓lI_440 F, ↓lI_441 F, ↓lI_443 F, ↓lI_444 F, ↓lI_445 F, ↓lI_446 F, ↓lI_447 F, ↓lI_448 F, ↓lI_449 F, ↓lI_450 F, ↓sI_436 F, ↓sI_437 F, ↓sI_438 F, ↓sI_439 F, ↓sI_440 F, ↓sI_441 F, ↓sI_443 F, ↓sI_444 F, ↓sI_445 F, ↓sI_446 F, ↓sI_447 F, ↓sI_448 F, ↓sI_449 F, ↓sI_450 F, ↓gd_435 F, il_0, il_1, il_10, il_11, il_27, il_31, q]
theorem d_down (F : Fix z) {k x : Int} (hk : (-2147483648 ≤ k ∧ k < 2147483648)) (hx : (-2147483648 ≤ x ∧ x < 2147483648)) : Dd z V0 (fun h => cA m_X_down [.ref 8, .int (iv k), .int (iv x)] h) (fun h => cA m_M_down [.ref 435, .int (iv k), .int (iv x)] h) := by
  intro V J A m
  have T := T10 F
  have ks := m.2.1
  obtain ⟨n1, n2, n3, m4⟩ := ks.1
  have n1 : V 10 5 = A 0 := n1
  have s2 := ks.2.2.1
  by_cases h1 : 0 ≤ k ∧ k < A 0
  · have hk6 : 0 ≤ k ∧ k < 6 := by omega
    obtain ⟨c1, c2, c3, c4, c5⟩ := m4.1 k h1.1 h1.2
    have c1 : V 12 k = A (11 + k) := c1
    have q1 : ∀ U K, U 436 = A → cA m_M_isKin [.ref 435, .int (iv k)] (em U K z) = some (.int (iv 1), em U K z) := fun U K hU => by
      rw [y_isKin F hk (by rw [hU]; exact n2), bz_T (by rw [hU]; omega)]
    by_cases h2 : 1 ≤ x ∧ x ≤ 99
    · generalize hy : A (11 + k) = y at *
      by_cases h3 : x ≤ y
      · obtain ⟨V1, e1, e2, k1, l1⟩ := y_saveA (J := J) F ks
        have v12 : V1 12 k = y := (e2 12 k (by omega) (by omega)).trans c1
        have b0 := keepA_o s2 (show (0 : Int) ≠ 3 by omega) (by omega)
        have bk := (keepA_o s2 (show 11 + k ≠ 3 by omega) (by omega)).trans hy
        have t0 := k1.1.2.2.2
        rw [b0] at t0
        have tc : cA m_Table_canPutDown [.ref 10, .int (iv k), .int (iv x)] (em V J z) = some (.int (iv 1), em V J z) := by
          simp (disch := first | decide | omega | (simp (disch := first | decide | omega) only [sv_s, sv_o, ur_s, ur_e, ur_o]; omega)) only [↓reduceIte, iv_add, iv_sub, iv_mul, iv_neg, iv_ltT, iv_ltF, iv_leT, iv_leF, iv_eqT, iv_eqF, iv_div, iv_mod, ↓bnI_s, ↓bnV_s, ↓bnJ_s, ↓bnR_s, rt_e, rt_0, rt_bz, sv_s, sv_o, ur_s, ur_e, ur_o, bz_T, bz_F, nat_eqF, Nat.reduceAdd, ↓q_Table_canPutDown, ↓rT_1 T, ↓gdT T, il_0, il_1, il_7, il_23, y_has T, n1, bz_T h1, y_get T.s2 (by decide), rd_in, c1]
        have tp : cA m_Table_putDown [.ref 10, .int (iv k), .int (iv x)] (em V1 J z) = some (.null, em (sv V1 12 k (y - x)) J z) := by
          simp (disch := first | decide | omega | (simp (disch := first | decide | omega) only [sv_s, sv_o, ur_s, ur_e, ur_o]; omega)) only [↓reduceIte, iv_add, iv_sub, iv_mul, iv_neg, iv_ltT, iv_ltF, iv_leT, iv_leF, iv_eqT, iv_eqF, iv_div, iv_mod, ↓bnI_s, ↓bnV_s, ↓bnJ_s, ↓bnR_s, rt_e, rt_0, rt_bz, sv_s, sv_o, ur_s, ur_e, ur_o, bz_T, bz_F, nat_eqF, Nat.reduceAdd, ↓q_Table_putDown, ↓rT_1 T, ↓gdT T, il_0, il_1, il_7, il_23, y_get T.s2 (by decide), y_put T.s2 (by decide), rd_in, pt_in, v12]
        have md : Mid V0 (sv V1 12 k (y - x)) (ur (keepA A) (11 + k) (y - x)) := by
          refine (m.turn e2 k1 l1 (fun a j _ h => by simp (disch := first | decide | omega | (simp (disch := first | decide | omega) only [sv_s, sv_o, ur_s, ur_e, ur_o]; omega)) only [↓reduceIte, iv_add, iv_sub, iv_mul, iv_neg, iv_ltT, iv_ltF, iv_leT, iv_leF, iv_eqT, iv_eqF, iv_div, iv_mod, ↓bnI_s, ↓bnV_s, ↓bnJ_s, ↓bnR_s, rt_e, rt_0, rt_bz, sv_s, sv_o, ur_s, ur_e, ur_o, bz_T, bz_F, nat_eqF, Nat.reduceAdd]) (by simp (disch := first | decide | omega | (simp (disch := first | decide | omega) only [sv_s, sv_o, ur_s, ur_e, ur_o]; omega)) only [↓reduceIte, iv_add, iv_sub, iv_mul, iv_neg, iv_ltT, iv_ltF, iv_leT, iv_leF, iv_eqT, iv_eqF, iv_div, iv_mod, ↓bnI_s, ↓bnV_s, ↓bnJ_s, ↓bnR_s, rt_e, rt_0, rt_bz, sv_s, sv_o, ur_s, ur_e, ur_o, bz_T, bz_F, nat_eqF, Nat.reduceAdd]) (by simp (disch := first | decide | omega | (simp (disch := first | decide | omega) only [sv_s, sv_o, ur_s, ur_e, ur_o]; omega)) only [↓reduceIte, iv_add, iv_sub, iv_mul, iv_neg, iv_ltT, iv_ltF, iv_leT, iv_leF, iv_eqT, iv_eqF, iv_div, iv_mod, ↓bnI_s, ↓bnV_s, ↓bnJ_s, ↓bnR_s, rt_e, rt_0, rt_bz, sv_s, sv_o, ur_s, ur_e, ur_o, bz_T, bz_F, nat_eqF, Nat.reduceAdd]) (fun j hj => ur_o (by omega)) ?_).1
          refine Tr_kept t0 n2.2 h1 (by omega) ?_ ?_ ?_ ?_ ?_
          · simp (disch := first | decide | omega | (simp (disch := first | decide | omega) only [sv_s, sv_o, ur_s, ur_e, ur_o]; omega)) only [↓reduceIte, iv_add, iv_sub, iv_mul, iv_neg, iv_ltT, iv_ltF, iv_leT, iv_leF, iv_eqT, iv_eqF, iv_div, iv_mod, ↓bnI_s, ↓bnV_s, ↓bnJ_s, ↓bnR_s, rt_e, rt_0, rt_bz, sv_s, sv_o, ur_s, ur_e, ur_o, bz_T, bz_F, nat_eqF, Nat.reduceAdd]
          · simp (disch := first | decide | omega | (simp (disch := first | decide | omega) only [sv_s, sv_o, ur_s, ur_e, ur_o]; omega)) only [↓reduceIte, iv_add, iv_sub, iv_mul, iv_neg, iv_ltT, iv_ltF, iv_leT, iv_leF, iv_eqT, iv_eqF, iv_div, iv_mod, ↓bnI_s, ↓bnV_s, ↓bnJ_s, ↓bnR_s, rt_e, rt_0, rt_bz, sv_s, sv_o, ur_s, ur_e, ur_o, bz_T, bz_F, nat_eqF, Nat.reduceAdd]
          · simp (disch := first | decide | omega | (simp (disch := first | decide | omega) only [sv_s, sv_o, ur_s, ur_e, ur_o]; omega)) only [↓reduceIte, iv_add, iv_sub, iv_mul, iv_neg, iv_ltT, iv_ltF, iv_leT, iv_leF, iv_eqT, iv_eqF, iv_div, iv_mod, ↓bnI_s, ↓bnV_s, ↓bnJ_s, ↓bnR_s, rt_e, rt_0, rt_bz, sv_s, sv_o, ur_s, ur_e, ur_o, bz_T, bz_F, nat_eqF, Nat.reduceAdd]
          · simp (disch := first | decide | omega | (simp (disch := first | decide | omega) only [sv_s, sv_o, ur_s, ur_e, ur_o]; omega)) only [↓reduceIte, iv_add, iv_sub, iv_mul, iv_neg, iv_ltT, iv_ltF, iv_leT, iv_leF, iv_eqT, iv_eqF, iv_div, iv_mod, ↓bnI_s, ↓bnV_s, ↓bnJ_s, ↓bnR_s, rt_e, rt_0, rt_bz, sv_s, sv_o, ur_s, ur_e, ur_o, bz_T, bz_F, nat_eqF, Nat.reduceAdd]
          · simp (disch := first | decide | omega | (simp (disch := first | decide | omega) only [sv_s, sv_o, ur_s, ur_e, ur_o]; omega)) only [↓reduceIte, iv_add, iv_sub, iv_mul, iv_neg, iv_ltT, iv_ltF, iv_leT, iv_leF, iv_eqT, iv_eqF, iv_div, iv_mod, ↓bnI_s, ↓bnV_s, ↓bnJ_s, ↓bnR_s, rt_e, rt_0, rt_bz, sv_s, sv_o, ur_s, ur_e, ur_o, bz_T, bz_F, nat_eqF, Nat.reduceAdd]
        refine ⟨1, _, _, J, ?_, md, by omega, fun U K hU _ _ => ?_⟩
        · simp (disch := first | decide | omega | (simp (disch := first | decide | omega) only [sv_s, sv_o, ur_s, ur_e, ur_o]; omega)) only [↓reduceIte, iv_add, iv_sub, iv_mul, iv_neg, iv_ltT, iv_ltF, iv_leT, iv_leF, iv_eqT, iv_eqF, iv_div, iv_mod, ↓bnI_s, ↓bnV_s, ↓bnJ_s, ↓bnR_s, rt_e, rt_0, rt_bz, sv_s, sv_o, ur_s, ur_e, ur_o, bz_T, bz_F, nat_eqF, Nat.reduceAdd, ↓q_X_down, ↓gR_8_0 F, ↓gR_9_0 F, ↓gd_8 F, il_0, il_1, il_2, il_10, il_26, il_99, y_within, tc, e1, tp]
        · obtain ⟨U', f1, f2, f3⟩ := y_keepA (V := U) (J := K) F (by rw [hU]; exact s2)
          rw [hU] at f3
          have uk : U 436 (11 + k) = y := by rw [hU]; exact hy
          have q : cA m_M_canDown [.ref 435, .int (iv k), .int (iv x)] (em U K z) = some (.int (iv 1), em U K z) := by
            simp (disch := first | decide | omega | (simp (disch := first | decide | omega) only [sv_s, sv_o, ur_s, ur_e, ur_o]; omega)) only [↓reduceIte, iv_add, iv_sub, iv_mul, iv_neg, iv_ltT, iv_ltF, iv_leT, iv_leF, iv_eqT, iv_eqF, iv_div, iv_mod, ↓bnI_s, ↓bnV_s, ↓bnJ_s, ↓bnR_s, rt_e, rt_0, rt_bz, sv_s, sv_o, ur_s, ur_e, ur_o, bz_T, bz_F, nat_eqF, Nat.reduceAdd, ↓q_M_canDown, ↓gR_435_0 F, ↓lI_436 F, ↓lI_437 F, ↓lI_438 F, ↓lI_439 F, ↓lI_440 F, ↓lI_441 F, ↓lI_443 F, ↓lI_444 F, ↓lI_445 F, ↓lI_446 F, ↓lI_447 F, ↓lI_448 F, ↓lI_449 F, ↓lI_450 F, ↓gd_435 F, il_0, il_1, il_11, il_27, il_99, q1 U K hU, y_isIn, uk]
          refine ⟨sv U' 436 (11 + k) (y - x), K, ?_, by simp (disch := first | decide | omega | (simp (disch := first | decide | omega) only [sv_s, sv_o, ur_s, ur_e, ur_o]; omega)) only [↓reduceIte, iv_add, iv_sub, iv_mul, iv_neg, iv_ltT, iv_ltF, iv_leT, iv_leF, iv_eqT, iv_eqF, iv_div, iv_mod, ↓bnI_s, ↓bnV_s, ↓bnJ_s, ↓bnR_s, rt_e, rt_0, rt_bz, sv_s, sv_o, ur_s, ur_e, ur_o, bz_T, bz_F, nat_eqF, Nat.reduceAdd, f3], fun a j _ h => by simp (disch := first | decide | omega | (simp (disch := first | decide | omega) only [sv_s, sv_o, ur_s, ur_e, ur_o]; omega)) only [↓reduceIte, iv_add, iv_sub, iv_mul, iv_neg, iv_ltT, iv_ltF, iv_leT, iv_leF, iv_eqT, iv_eqF, iv_div, iv_mod, ↓bnI_s, ↓bnV_s, ↓bnJ_s, ↓bnR_s, rt_e, rt_0, rt_bz, sv_s, sv_o, ur_s, ur_e, ur_o, bz_T, bz_F, nat_eqF, Nat.reduceAdd, f2 a h]⟩
          simp (disch := first | decide | omega | (simp (disch := first | decide | omega) only [sv_s, sv_o, ur_s, ur_e, ur_o]; omega)) only [↓reduceIte, iv_add, iv_sub, iv_mul, iv_neg, iv_ltT, iv_ltF, iv_leT, iv_leF, iv_eqT, iv_eqF, iv_div, iv_mod, ↓bnI_s, ↓bnV_s, ↓bnJ_s, ↓bnR_s, rt_e, rt_0, rt_bz, sv_s, sv_o, ur_s, ur_e, ur_o, bz_T, bz_F, nat_eqF, Nat.reduceAdd, ↓q_M_down, ↓gR_435_0 F, ↓lI_436 F, ↓lI_437 F, ↓lI_438 F, ↓lI_439 F, ↓lI_440 F, ↓lI_441 F, ↓lI_443 F, ↓lI_444 F, ↓lI_445 F, ↓lI_446 F, ↓lI_447 F, ↓lI_448 F, ↓lI_449 F, ↓lI_450 F, ↓sI_436 F, ↓sI_437 F, ↓sI_438 F, ↓sI_439 F, ↓sI_440 F, ↓sI_441 F, ↓sI_443 F, ↓sI_444 F, ↓sI_445 F, ↓sI_446 F, ↓sI_447 F, ↓sI_448 F, ↓sI_449 F, ↓sI_450 F, ↓gd_435 F, il_0, il_1, il_11, il_27, q, f1, f3, bk]
      · refine ⟨0, A, V, J, ?_, m, by omega, fun U K hU _ _ => ⟨U, K, ?_, hU, frM.rfl_⟩⟩
        · have tc : cA m_Table_canPutDown [.ref 10, .int (iv k), .int (iv x)] (em V J z) = some (.int (iv 0), em V J z) := by
            simp (disch := first | decide | omega | (simp (disch := first | decide | omega) only [sv_s, sv_o, ur_s, ur_e, ur_o]; omega)) only [↓reduceIte, iv_add, iv_sub, iv_mul, iv_neg, iv_ltT, iv_ltF, iv_leT, iv_leF, iv_eqT, iv_eqF, iv_div, iv_mod, ↓bnI_s, ↓bnV_s, ↓bnJ_s, ↓bnR_s, rt_e, rt_0, rt_bz, sv_s, sv_o, ur_s, ur_e, ur_o, bz_T, bz_F, nat_eqF, Nat.reduceAdd, ↓q_Table_canPutDown, ↓rT_1 T, ↓gdT T, il_0, il_1, il_7, il_23, y_has T, n1, bz_T h1, y_get T.s2 (by decide), rd_in, c1]
          simp (disch := first | decide | omega | (simp (disch := first | decide | omega) only [sv_s, sv_o, ur_s, ur_e, ur_o]; omega)) only [↓reduceIte, iv_add, iv_sub, iv_mul, iv_neg, iv_ltT, iv_ltF, iv_leT, iv_leF, iv_eqT, iv_eqF, iv_div, iv_mod, ↓bnI_s, ↓bnV_s, ↓bnJ_s, ↓bnR_s, rt_e, rt_0, rt_bz, sv_s, sv_o, ur_s, ur_e, ur_o, bz_T, bz_F, nat_eqF, Nat.reduceAdd, ↓q_X_down, ↓gR_8_0 F, ↓gR_9_0 F, ↓gd_8 F, il_0, il_1, il_2, il_10, il_26, il_99, y_within, tc]
        · have uk : U 436 (11 + k) = y := by rw [hU]; exact hy
          simp (disch := first | decide | omega | (simp (disch := first | decide | omega) only [sv_s, sv_o, ur_s, ur_e, ur_o]; omega)) only [↓reduceIte, iv_add, iv_sub, iv_mul, iv_neg, iv_ltT, iv_ltF, iv_leT, iv_leF, iv_eqT, iv_eqF, iv_div, iv_mod, ↓bnI_s, ↓bnV_s, ↓bnJ_s, ↓bnR_s, rt_e, rt_0, rt_bz, sv_s, sv_o, ur_s, ur_e, ur_o, bz_T, bz_F, nat_eqF, Nat.reduceAdd, ↓q_M_down, ↓q_M_canDown, ↓gR_435_0 F, ↓lI_436 F, ↓lI_437 F, ↓lI_438 F, ↓lI_439 F, ↓lI_440 F, ↓lI_441 F, ↓lI_443 F, ↓lI_444 F, ↓lI_445 F, ↓lI_446 F, ↓lI_447 F, ↓lI_448 F, ↓lI_449 F, ↓lI_450 F, ↓sI_436 F, ↓sI_437 F, ↓sI_438 F, ↓sI_439 F, ↓sI_440 F, ↓sI_441 F, ↓sI_443 F, ↓sI_444 F, ↓sI_445 F, ↓sI_446 F, ↓sI_447 F, ↓sI_448 F, ↓sI_449 F, ↓sI_450 F, ↓gd_435 F, il_0, il_1, il_11, il_27, il_99, q1 U K hU, y_isIn, uk]
    · have b2 : bz (1 ≤ x ∧ x ≤ 99) = 0 := bz_F h2
      refine ⟨0, A, V, J, ?_, m, by omega, fun U K hU _ _ => ⟨U, K, ?_, hU, frM.rfl_⟩⟩
      · simp (disch := first | decide | omega | (simp (disch := first | decide | omega) only [sv_s, sv_o, ur_s, ur_e, ur_o]; omega)) only [↓reduceIte, iv_add, iv_sub, iv_mul, iv_neg, iv_ltT, iv_ltF, iv_leT, iv_leF, iv_eqT, iv_eqF, iv_div, iv_mod, ↓bnI_s, ↓bnV_s, ↓bnJ_s, ↓bnR_s, rt_e, rt_0, rt_bz, sv_s, sv_o, ur_s, ur_e, ur_o, bz_T, bz_F, nat_eqF, Nat.reduceAdd, ↓q_X_down, ↓gR_8_0 F, ↓gR_9_0 F, ↓gd_8 F, il_0, il_1, il_2, il_10, il_26, il_99, y_within, b2]
      · simp (disch := first | decide | omega | (simp (disch := first | decide | omega) only [sv_s, sv_o, ur_s, ur_e, ur_o]; omega)) only [↓reduceIte, iv_add, iv_sub, iv_mul, iv_neg, iv_ltT, iv_ltF, iv_leT, iv_leF, iv_eqT, iv_eqF, iv_div, iv_mod, ↓bnI_s, ↓bnV_s, ↓bnJ_s, ↓bnR_s, rt_e, rt_0, rt_bz, sv_s, sv_o, ur_s, ur_e, ur_o, bz_T, bz_F, nat_eqF, Nat.reduceAdd, ↓q_M_down, ↓q_M_canDown, ↓gR_435_0 F, ↓lI_436 F, ↓lI_437 F, ↓lI_438 F, ↓lI_439 F, ↓lI_440 F, ↓lI_441 F, ↓lI_443 F, ↓lI_444 F, ↓lI_445 F, ↓lI_446 F, ↓lI_447 F, ↓lI_448 F, ↓lI_449 F, ↓lI_450 F, ↓sI_436 F, ↓sI_437 F, ↓sI_438 F, ↓sI_439 F, ↓sI_440 F, ↓sI_441 F, ↓sI_443 F, ↓sI_444 F, ↓sI_445 F, ↓sI_446 F, ↓sI_447 F, ↓sI_448 F, ↓sI_449 F, ↓sI_450 F, ↓gd_435 F, il_0, il_1, il_11, il_27, il_99, q1 U K hU, y_isIn, b2]
  · have q1 : ∀ U K, U 436 = A → cA m_M_isKin [.ref 435, .int (iv k)] (em U K z) = some (.int (iv 0), em U K z) := fun U K hU => by
      rw [y_isKin F hk (by rw [hU]; exact n2), bz_F (by rw [hU]; omega)]
    have tc : cA m_Table_canPutDown [.ref 10, .int (iv k), .int (iv x)] (em V J z) = some (.int (iv 0), em V J z) := by
      simp (disch := first | decide | omega | (simp (disch := first | decide | omega) only [sv_s, sv_o, ur_s, ur_e, ur_o]; omega)) only [↓reduceIte, iv_add, iv_sub, iv_mul, iv_neg, iv_ltT, iv_ltF, iv_leT, iv_leF, iv_eqT, iv_eqF, iv_div, iv_mod, ↓bnI_s, ↓bnV_s, ↓bnJ_s, ↓bnR_s, rt_e, rt_0, rt_bz, sv_s, sv_o, ur_s, ur_e, ur_o, bz_T, bz_F, nat_eqF, Nat.reduceAdd, ↓q_Table_canPutDown, ↓rT_1 T, ↓gdT T, il_0, il_1, il_7, il_23, y_has T, n1, bz_F h1]
    refine ⟨0, A, V, J, ?_, m, by omega, fun U K hU _ _ => ⟨U, K, ?_, hU, frM.rfl_⟩⟩
    · by_cases h2 : 1 ≤ x ∧ x ≤ 99
      · simp (disch := first | decide | omega | (simp (disch := first | decide | omega) only [sv_s, sv_o, ur_s, ur_e, ur_o]; omega)) only [↓reduceIte, iv_add, iv_sub, iv_mul, iv_neg, iv_ltT, iv_ltF, iv_leT, iv_leF, iv_eqT, iv_eqF, iv_div, iv_mod, ↓bnI_s, ↓bnV_s, ↓bnJ_s, ↓bnR_s, rt_e, rt_0, rt_bz, sv_s, sv_o, ur_s, ur_e, ur_o, bz_T, bz_F, nat_eqF, Nat.reduceAdd, ↓q_X_down, ↓gR_8_0 F, ↓gR_9_0 F, ↓gd_8 F, il_0, il_1, il_2, il_10, il_26, il_99, y_within, tc]
      · have b2 : bz (1 ≤ x ∧ x ≤ 99) = 0 := bz_F h2
        simp (disch := first | decide | omega | (simp (disch := first | decide | omega) only [sv_s, sv_o, ur_s, ur_e, ur_o]; omega)) only [↓reduceIte, iv_add, iv_sub, iv_mul, iv_neg, iv_ltT, iv_ltF, iv_leT, iv_leF, iv_eqT, iv_eqF, iv_div, iv_mod, ↓bnI_s, ↓bnV_s, ↓bnJ_s, ↓bnR_s, rt_e, rt_0, rt_bz, sv_s, sv_o, ur_s, ur_e, ur_o, bz_T, bz_F, nat_eqF, Nat.reduceAdd, ↓q_X_down, ↓gR_8_0 F, ↓gR_9_0 F, ↓gd_8 F, il_0, il_1, il_2, il_10, il_26, il_99, y_within, b2]
    · simp (disch := first | decide | omega | (simp (disch := first | decide | omega) only [sv_s, sv_o, ur_s, ur_e, ur_o]; omega)) only [↓reduceIte, iv_add, iv_sub, iv_mul, iv_neg, iv_ltT, iv_ltF, iv_leT, iv_leF, iv_eqT, iv_eqF, iv_div, iv_mod, ↓bnI_s, ↓bnV_s, ↓bnJ_s, ↓bnR_s, rt_e, rt_0, rt_bz, sv_s, sv_o, ur_s, ur_e, ur_o, bz_T, bz_F, nat_eqF, Nat.reduceAdd, ↓q_M_down, ↓q_M_canDown, ↓gR_435_0 F, ↓lI_436 F, ↓lI_437 F, ↓lI_438 F, ↓lI_439 F, ↓lI_440 F, ↓lI_441 F, ↓lI_443 F, ↓lI_444 F, ↓lI_445 F, ↓lI_446 F, ↓lI_447 F, ↓lI_448 F, ↓lI_449 F, ↓lI_450 F, ↓sI_436 F, ↓sI_437 F, ↓sI_438 F, ↓sI_439 F, ↓sI_440 F, ↓sI_441 F, ↓sI_443 F, ↓sI_444 F, ↓sI_445 F, ↓sI_446 F, ↓sI_447 F, ↓sI_448 F, ↓sI_449 F, ↓sI_450 F, ↓gd_435 F, il_0, il_1, il_11, il_27, il_99, q1 U K hU]
theorem d_reach (F : Fix z) {k : Int} (hk : (-2147483648 ≤ k ∧ k < 2147483648)) : Dd z V0 (fun h => cA m_X_reach [.ref 8, .int (iv k)] h) (fun h => cA m_M_reach [.ref 435, .int (iv k)] h) := by
  intro V J A m
  have T := T10 F
  have ks := m.2.1
  obtain ⟨n1, n2, n3, m4⟩ := ks.1
  have n1 : V 10 5 = A 0 := n1
  have s2 := ks.2.2.1
  have x6 : V 10 6 = A 10 := m4.2.2.1.1
  have cr := y_canReach (V := V) (J := J) T hk n1 n2 x6
  by_cases h1 : 0 ≤ k ∧ k < A 0
  · have hk6 : 0 ≤ k ∧ k < 6 := by omega
    have q1 : ∀ U K, U 436 = A → cA m_M_isKin [.ref 435, .int (iv k)] (em U K z) = some (.int (iv 1), em U K z) := fun U K hU => by
      rw [y_isKin F hk (by rw [hU]; exact n2), bz_T (by rw [hU]; omega)]
    by_cases h2 : sb (A 10) k
    · rw [bz_F (p := (0 ≤ k ∧ k < A 0) ∧ ¬ sb (A 10) k) (fun h => h.2 h2)] at cr
      refine ⟨-1, A, V, J, ?_, m, by omega, fun U K hU _ _ => ⟨U, K, ?_, hU, frM.rfl_⟩⟩
      · simp (disch := first | decide | omega | (simp (disch := first | decide | omega) only [sv_s, sv_o, ur_s, ur_e, ur_o]; omega)) only [↓reduceIte, iv_add, iv_sub, iv_mul, iv_neg, iv_ltT, iv_ltF, iv_leT, iv_leF, iv_eqT, iv_eqF, iv_div, iv_mod, ↓bnI_s, ↓bnV_s, ↓bnJ_s, ↓bnR_s, rt_e, rt_0, rt_bz, sv_s, sv_o, ur_s, ur_e, ur_o, bz_T, bz_F, nat_eqF, Nat.reduceAdd, ↓q_X_reach, ↓gR_8_0 F, ↓gR_9_0 F, ↓gd_8 F, il_0, il_1, il_2, il_10, il_26, cr]
      · have q2 : cA m_M_isStrapped [.ref 435, .int (iv k)] (em U K z) = some (.int (iv 1), em U K z) := by
          rw [y_M_isStrapped F, hU, bz_T h2]
        simp (disch := first | decide | omega | (simp (disch := first | decide | omega) only [sv_s, sv_o, ur_s, ur_e, ur_o]; omega)) only [↓reduceIte, iv_add, iv_sub, iv_mul, iv_neg, iv_ltT, iv_ltF, iv_leT, iv_leF, iv_eqT, iv_eqF, iv_div, iv_mod, ↓bnI_s, ↓bnV_s, ↓bnJ_s, ↓bnR_s, rt_e, rt_0, rt_bz, sv_s, sv_o, ur_s, ur_e, ur_o, bz_T, bz_F, nat_eqF, Nat.reduceAdd, ↓q_M_reach, ↓gR_435_0 F, ↓lI_436 F, ↓lI_437 F, ↓lI_438 F, ↓lI_439 F, ↓lI_440 F, ↓lI_441 F, ↓lI_443 F, ↓lI_444 F, ↓lI_445 F, ↓lI_446 F, ↓lI_447 F, ↓lI_448 F, ↓lI_449 F, ↓lI_450 F, ↓gd_435 F, il_0, il_1, il_11, il_27, q1 U K hU, q2]
    · rw [bz_T (p := (0 ≤ k ∧ k < A 0) ∧ ¬ sb (A 10) k) ⟨h1, h2⟩] at cr
      obtain ⟨c1, c2, c3, c4, c5⟩ := m4.1 k h1.1 h1.2
      have c1 : V 12 k = A (11 + k) := c1
      generalize hy : A (11 + k) = y at *
      have hm : ∃ w, w = min (y + 1) 99 ∧ 0 ≤ w ∧ w ≤ 99 := ⟨_, rfl, by omega, by omega⟩
      obtain ⟨w, hw, w0⟩ := hm
      obtain ⟨V1, e1, e2, k1, l1⟩ := y_saveA (J := J) F ks
      have v12 : V1 12 k = y := (e2 12 k (by omega) (by omega)).trans c1
      have b0 := keepA_o s2 (show (0 : Int) ≠ 3 by omega) (by omega)
      have bk := (keepA_o s2 (show 11 + k ≠ 3 by omega) (by omega)).trans hy
      have t0 := k1.1.2.2.2
      rw [b0] at t0
      have tp := y_keepOne (V := V1) (J := J) T hk6 v12 c4
      rw [← hw] at tp
      have md : Mid V0 (sv V1 12 k w) (ur (keepA A) (11 + k) w) := by
        refine (m.turn e2 k1 l1 (fun a j _ h => by simp (disch := first | decide | omega | (simp (disch := first | decide | omega) only [sv_s, sv_o, ur_s, ur_e, ur_o]; omega)) only [↓reduceIte, iv_add, iv_sub, iv_mul, iv_neg, iv_ltT, iv_ltF, iv_leT, iv_leF, iv_eqT, iv_eqF, iv_div, iv_mod, ↓bnI_s, ↓bnV_s, ↓bnJ_s, ↓bnR_s, rt_e, rt_0, rt_bz, sv_s, sv_o, ur_s, ur_e, ur_o, bz_T, bz_F, nat_eqF, Nat.reduceAdd]) (by simp (disch := first | decide | omega | (simp (disch := first | decide | omega) only [sv_s, sv_o, ur_s, ur_e, ur_o]; omega)) only [↓reduceIte, iv_add, iv_sub, iv_mul, iv_neg, iv_ltT, iv_ltF, iv_leT, iv_leF, iv_eqT, iv_eqF, iv_div, iv_mod, ↓bnI_s, ↓bnV_s, ↓bnJ_s, ↓bnR_s, rt_e, rt_0, rt_bz, sv_s, sv_o, ur_s, ur_e, ur_o, bz_T, bz_F, nat_eqF, Nat.reduceAdd]) (by simp (disch := first | decide | omega | (simp (disch := first | decide | omega) only [sv_s, sv_o, ur_s, ur_e, ur_o]; omega)) only [↓reduceIte, iv_add, iv_sub, iv_mul, iv_neg, iv_ltT, iv_ltF, iv_leT, iv_leF, iv_eqT, iv_eqF, iv_div, iv_mod, ↓bnI_s, ↓bnV_s, ↓bnJ_s, ↓bnR_s, rt_e, rt_0, rt_bz, sv_s, sv_o, ur_s, ur_e, ur_o, bz_T, bz_F, nat_eqF, Nat.reduceAdd]) (fun j hj => ur_o (by omega)) ?_).1
        refine Tr_kept t0 n2.2 h1 (by omega) ?_ ?_ ?_ ?_ ?_
        · simp (disch := first | decide | omega | (simp (disch := first | decide | omega) only [sv_s, sv_o, ur_s, ur_e, ur_o]; omega)) only [↓reduceIte, iv_add, iv_sub, iv_mul, iv_neg, iv_ltT, iv_ltF, iv_leT, iv_leF, iv_eqT, iv_eqF, iv_div, iv_mod, ↓bnI_s, ↓bnV_s, ↓bnJ_s, ↓bnR_s, rt_e, rt_0, rt_bz, sv_s, sv_o, ur_s, ur_e, ur_o, bz_T, bz_F, nat_eqF, Nat.reduceAdd]
        · simp (disch := first | decide | omega | (simp (disch := first | decide | omega) only [sv_s, sv_o, ur_s, ur_e, ur_o]; omega)) only [↓reduceIte, iv_add, iv_sub, iv_mul, iv_neg, iv_ltT, iv_ltF, iv_leT, iv_leF, iv_eqT, iv_eqF, iv_div, iv_mod, ↓bnI_s, ↓bnV_s, ↓bnJ_s, ↓bnR_s, rt_e, rt_0, rt_bz, sv_s, sv_o, ur_s, ur_e, ur_o, bz_T, bz_F, nat_eqF, Nat.reduceAdd]
        · simp (disch := first | decide | omega | (simp (disch := first | decide | omega) only [sv_s, sv_o, ur_s, ur_e, ur_o]; omega)) only [↓reduceIte, iv_add, iv_sub, iv_mul, iv_neg, iv_ltT, iv_ltF, iv_leT, iv_leF, iv_eqT, iv_eqF, iv_div, iv_mod, ↓bnI_s, ↓bnV_s, ↓bnJ_s, ↓bnR_s, rt_e, rt_0, rt_bz, sv_s, sv_o, ur_s, ur_e, ur_o, bz_T, bz_F, nat_eqF, Nat.reduceAdd]
        · simp (disch := first | decide | omega | (simp (disch := first | decide | omega) only [sv_s, sv_o, ur_s, ur_e, ur_o]; omega)) only [↓reduceIte, iv_add, iv_sub, iv_mul, iv_neg, iv_ltT, iv_ltF, iv_leT, iv_leF, iv_eqT, iv_eqF, iv_div, iv_mod, ↓bnI_s, ↓bnV_s, ↓bnJ_s, ↓bnR_s, rt_e, rt_0, rt_bz, sv_s, sv_o, ur_s, ur_e, ur_o, bz_T, bz_F, nat_eqF, Nat.reduceAdd]
        · simp (disch := first | decide | omega | (simp (disch := first | decide | omega) only [sv_s, sv_o, ur_s, ur_e, ur_o]; omega)) only [↓reduceIte, iv_add, iv_sub, iv_mul, iv_neg, iv_ltT, iv_ltF, iv_leT, iv_leF, iv_eqT, iv_eqF, iv_div, iv_mod, ↓bnI_s, ↓bnV_s, ↓bnJ_s, ↓bnR_s, rt_e, rt_0, rt_bz, sv_s, sv_o, ur_s, ur_e, ur_o, bz_T, bz_F, nat_eqF, Nat.reduceAdd]
      refine ⟨w, _, _, J, ?_, md, by omega, fun U K hU _ _ => ?_⟩
      · simp (disch := first | decide | omega | (simp (disch := first | decide | omega) only [sv_s, sv_o, ur_s, ur_e, ur_o]; omega)) only [↓reduceIte, iv_add, iv_sub, iv_mul, iv_neg, iv_ltT, iv_ltF, iv_leT, iv_leF, iv_eqT, iv_eqF, iv_div, iv_mod, ↓bnI_s, ↓bnV_s, ↓bnJ_s, ↓bnR_s, rt_e, rt_0, rt_bz, sv_s, sv_o, ur_s, ur_e, ur_o, bz_T, bz_F, nat_eqF, Nat.reduceAdd, ↓q_X_reach, ↓gR_8_0 F, ↓gR_9_0 F, ↓gd_8 F, il_0, il_1, il_2, il_10, il_26, cr, e1, tp]
      · obtain ⟨U', f1, f2, f3⟩ := y_keepA (V := U) (J := K) F (by rw [hU]; exact s2)
        rw [hU] at f3
        have q2 : cA m_M_isStrapped [.ref 435, .int (iv k)] (em U K z) = some (.int (iv 0), em U K z) := by
          rw [y_M_isStrapped F, hU, bz_F h2]
        have tm := y_more (V := U') (J := K) F hk6 ((congrFun f3 _).trans bk) c4
        rw [← hw] at tm
        refine ⟨sv U' 436 (11 + k) w, K, ?_, by simp (disch := first | decide | omega | (simp (disch := first | decide | omega) only [sv_s, sv_o, ur_s, ur_e, ur_o]; omega)) only [↓reduceIte, iv_add, iv_sub, iv_mul, iv_neg, iv_ltT, iv_ltF, iv_leT, iv_leF, iv_eqT, iv_eqF, iv_div, iv_mod, ↓bnI_s, ↓bnV_s, ↓bnJ_s, ↓bnR_s, rt_e, rt_0, rt_bz, sv_s, sv_o, ur_s, ur_e, ur_o, bz_T, bz_F, nat_eqF, Nat.reduceAdd, f3], fun a j _ h => by simp (disch := first | decide | omega | (simp (disch := first | decide | omega) only [sv_s, sv_o, ur_s, ur_e, ur_o]; omega)) only [↓reduceIte, iv_add, iv_sub, iv_mul, iv_neg, iv_ltT, iv_ltF, iv_leT, iv_leF, iv_eqT, iv_eqF, iv_div, iv_mod, ↓bnI_s, ↓bnV_s, ↓bnJ_s, ↓bnR_s, rt_e, rt_0, rt_bz, sv_s, sv_o, ur_s, ur_e, ur_o, bz_T, bz_F, nat_eqF, Nat.reduceAdd, f2 a h]⟩
        simp (disch := first | decide | omega | (simp (disch := first | decide | omega) only [sv_s, sv_o, ur_s, ur_e, ur_o]; omega)) only [↓reduceIte, iv_add, iv_sub, iv_mul, iv_neg, iv_ltT, iv_ltF, iv_leT, iv_leF, iv_eqT, iv_eqF, iv_div, iv_mod, ↓bnI_s, ↓bnV_s, ↓bnJ_s, ↓bnR_s, rt_e, rt_0, rt_bz, sv_s, sv_o, ur_s, ur_e, ur_o, bz_T, bz_F, nat_eqF, Nat.reduceAdd, ↓q_M_reach, ↓gR_435_0 F, ↓lI_436 F, ↓lI_437 F, ↓lI_438 F, ↓lI_439 F, ↓lI_440 F, ↓lI_441 F, ↓lI_443 F, ↓lI_444 F, ↓lI_445 F, ↓lI_446 F, ↓lI_447 F, ↓lI_448 F, ↓lI_449 F, ↓lI_450 F, ↓gd_435 F, il_0, il_1, il_11, il_27, q1 U K hU, q2, f1, tm]
  · rw [bz_F (p := (0 ≤ k ∧ k < A 0) ∧ ¬ sb (A 10) k) (fun h => h1 h.1)] at cr
    refine ⟨-1, A, V, J, ?_, m, by omega, fun U K hU _ _ => ⟨U, K, ?_, hU, frM.rfl_⟩⟩
    · simp (disch := first | decide | omega | (simp (disch := first | decide | omega) only [sv_s, sv_o, ur_s, ur_e, ur_o]; omega)) only [↓reduceIte, iv_add, iv_sub, iv_mul, iv_neg, iv_ltT, iv_ltF, iv_leT, iv_leF, iv_eqT, iv_eqF, iv_div, iv_mod, ↓bnI_s, ↓bnV_s, ↓bnJ_s, ↓bnR_s, rt_e, rt_0, rt_bz, sv_s, sv_o, ur_s, ur_e, ur_o, bz_T, bz_F, nat_eqF, Nat.reduceAdd, ↓q_X_reach, ↓gR_8_0 F, ↓gR_9_0 F, ↓gd_8 F, il_0, il_1, il_2, il_10, il_26, cr]
    · have q1 : cA m_M_isKin [.ref 435, .int (iv k)] (em U K z) = some (.int (iv 0), em U K z) := by
        rw [y_isKin F hk (by rw [hU]; exact n2), bz_F (by rw [hU]; omega)]
      simp (disch := first | decide | omega | (simp (disch := first | decide | omega) only [sv_s, sv_o, ur_s, ur_e, ur_o]; omega)) only [↓reduceIte, iv_add, iv_sub, iv_mul, iv_neg, iv_ltT, iv_ltF, iv_leT, iv_leF, iv_eqT, iv_eqF, iv_div, iv_mod, ↓bnI_s, ↓bnV_s, ↓bnJ_s, ↓bnR_s, rt_e, rt_0, rt_bz, sv_s, sv_o, ur_s, ur_e, ur_o, bz_T, bz_F, nat_eqF, Nat.reduceAdd, ↓q_M_reach, ↓gR_435_0 F, ↓lI_436 F, ↓lI_437 F, ↓lI_438 F, ↓lI_439 F, ↓lI_440 F, ↓lI_441 F, ↓lI_443 F, ↓lI_444 F, ↓lI_445 F, ↓lI_446 F, ↓lI_447 F, ↓lI_448 F, ↓lI_449 F, ↓lI_450 F, ↓gd_435 F, il_0, il_1, il_11, il_27, q1]
theorem d_swap (F : Fix z) {a b : Int} (ha : (-2147483648 ≤ a ∧ a < 2147483648)) (hb : (-2147483648 ≤ b ∧ b < 2147483648)) : Dd z V0 (fun h => cA m_X_swap [.ref 8, .int (iv a), .int (iv b)] h) (fun h => cA m_M_swap [.ref 435, .int (iv a), .int (iv b)] h) := by
  intro V J A m
  have T := T10 F
  have ks := m.2.1
  obtain ⟨n1, n2, n3, m4⟩ := ks.1
  have n1 : V 10 5 = A 0 := n1
  have s2 := ks.2.2.1
  have cs := y_canSwap (V := V) (J := J) T ha hb (by omega)
  rw [n1] at cs
  have qa : ∀ U K, U 436 = A → cA m_M_isKin [.ref 435, .int (iv a)] (em U K z) = some (.int (iv (bz (0 ≤ a ∧ a < A 0))), em U K z) := fun U K hU => by
    rw [y_isKin F ha (by rw [hU]; exact n2), hU, bz_eq (q := 0 ≤ a ∧ a < A 0) (by omega)]
  have qb : ∀ U K, U 436 = A → cA m_M_isKin [.ref 435, .int (iv b)] (em U K z) = some (.int (iv (bz (0 ≤ b ∧ b < A 0))), em U K z) := fun U K hU => by
    rw [y_isKin F hb (by rw [hU]; exact n2), hU, bz_eq (q := 0 ≤ b ∧ b < A 0) (by omega)]
  by_cases h : (0 ≤ a ∧ a < A 0) ∧ (0 ≤ b ∧ b < A 0) ∧ a ≠ b
  · rw [bz_T h] at cs
    obtain ⟨h1, h2, h3⟩ := h
    rw [bz_T h1] at qa
    rw [bz_T h2] at qb
    obtain ⟨p1, p2, p3, p4, p5⟩ := m4.1 a h1.1 h1.2
    obtain ⟨r1, r2, r3, r4, r5⟩ := m4.1 b h2.1 h2.2
    obtain ⟨V1, e1, e2, k1, l1⟩ := y_saveA (J := J) F ks
    have va : V1 13 a = A (17 + a) := (e2 13 a (by omega) (by omega)).trans p2
    have vb : V1 13 b = A (17 + b) := (e2 13 b (by omega) (by omega)).trans r2
    have b0 := keepA_o s2 (show (0 : Int) ≠ 3 by omega) (by omega)
    have ba := keepA_o s2 (show 17 + a ≠ 3 by omega) (by omega)
    have bb := keepA_o s2 (show 17 + b ≠ 3 by omega) (by omega)
    have t0 := k1.1.2.2.2
    rw [b0] at t0
    have tp := y_swapSeats (V := V1) (J := J) T (a := a) (b := b) (by omega) (by omega) va vb (by omega) (by omega)
    have ne : A (17 + a) ≠ A (17 + b) := fun x => h3 (by rw [← p3, x, r3])
    have md : Mid V0 (sv (sv (sv (sv V1 13 a (A (17 + b))) 13 b (A (17 + a))) 14 (A (17 + a)) b) 14 (A (17 + b)) a) (swp (keepA A) a b) := by
      refine (m.turn e2 k1 l1 (fun c j _ h => by simp (disch := first | decide | omega | (simp (disch := first | decide | omega) only [sv_s, sv_o, ur_s, ur_e, ur_o]; omega)) only [↓reduceIte, iv_add, iv_sub, iv_mul, iv_neg, iv_ltT, iv_ltF, iv_leT, iv_leF, iv_eqT, iv_eqF, iv_div, iv_mod, ↓bnI_s, ↓bnV_s, ↓bnJ_s, ↓bnR_s, rt_e, rt_0, rt_bz, sv_s, sv_o, ur_s, ur_e, ur_o, bz_T, bz_F, nat_eqF, Nat.reduceAdd]) (by simp (disch := first | decide | omega | (simp (disch := first | decide | omega) only [sv_s, sv_o, ur_s, ur_e, ur_o]; omega)) only [↓reduceIte, iv_add, iv_sub, iv_mul, iv_neg, iv_ltT, iv_ltF, iv_leT, iv_leF, iv_eqT, iv_eqF, iv_div, iv_mod, ↓bnI_s, ↓bnV_s, ↓bnJ_s, ↓bnR_s, rt_e, rt_0, rt_bz, sv_s, sv_o, ur_s, ur_e, ur_o, bz_T, bz_F, nat_eqF, Nat.reduceAdd]) (by simp (disch := first | decide | omega | (simp (disch := first | decide | omega) only [sv_s, sv_o, ur_s, ur_e, ur_o]; omega)) only [↓reduceIte, iv_add, iv_sub, iv_mul, iv_neg, iv_ltT, iv_ltF, iv_leT, iv_leF, iv_eqT, iv_eqF, iv_div, iv_mod, ↓bnI_s, ↓bnV_s, ↓bnJ_s, ↓bnR_s, rt_e, rt_0, rt_bz, sv_s, sv_o, ur_s, ur_e, ur_o, bz_T, bz_F, nat_eqF, Nat.reduceAdd]) (fun j hj => swp_o (by omega) (by omega)) ?_).1
      refine Tr_swap t0 n2.2 h1 h2 h3 ?_ ?_ ?_ ?_ ?_
      · simp (disch := first | decide | omega | (simp (disch := first | decide | omega) only [sv_s, sv_o, ur_s, ur_e, ur_o]; omega)) only [↓reduceIte, iv_add, iv_sub, iv_mul, iv_neg, iv_ltT, iv_ltF, iv_leT, iv_leF, iv_eqT, iv_eqF, iv_div, iv_mod, ↓bnI_s, ↓bnV_s, ↓bnJ_s, ↓bnR_s, rt_e, rt_0, rt_bz, sv_s, sv_o, ur_s, ur_e, ur_o, bz_T, bz_F, nat_eqF, Nat.reduceAdd]
      · simp (disch := first | decide | omega | (simp (disch := first | decide | omega) only [sv_s, sv_o, ur_s, ur_e, ur_o]; omega)) only [↓reduceIte, iv_add, iv_sub, iv_mul, iv_neg, iv_ltT, iv_ltF, iv_leT, iv_leF, iv_eqT, iv_eqF, iv_div, iv_mod, ↓bnI_s, ↓bnV_s, ↓bnJ_s, ↓bnR_s, rt_e, rt_0, rt_bz, sv_s, sv_o, ur_s, ur_e, ur_o, bz_T, bz_F, nat_eqF, Nat.reduceAdd]
      · simp (disch := first | decide | omega | (simp (disch := first | decide | omega) only [sv_s, sv_o, ur_s, ur_e, ur_o]; omega)) only [↓reduceIte, iv_add, iv_sub, iv_mul, iv_neg, iv_ltT, iv_ltF, iv_leT, iv_leF, iv_eqT, iv_eqF, iv_div, iv_mod, ↓bnI_s, ↓bnV_s, ↓bnJ_s, ↓bnR_s, rt_e, rt_0, rt_bz, sv_s, sv_o, ur_s, ur_e, ur_o, bz_T, bz_F, nat_eqF, Nat.reduceAdd, va, vb]
      · simp (disch := first | decide | omega | (simp (disch := first | decide | omega) only [sv_s, sv_o, ur_s, ur_e, ur_o]; omega)) only [↓reduceIte, iv_add, iv_sub, iv_mul, iv_neg, iv_ltT, iv_ltF, iv_leT, iv_leF, iv_eqT, iv_eqF, iv_div, iv_mod, ↓bnI_s, ↓bnV_s, ↓bnJ_s, ↓bnR_s, rt_e, rt_0, rt_bz, sv_s, sv_o, ur_s, ur_e, ur_o, bz_T, bz_F, nat_eqF, Nat.reduceAdd, va, vb]
      · simp (disch := first | decide | omega | (simp (disch := first | decide | omega) only [sv_s, sv_o, ur_s, ur_e, ur_o]; omega)) only [↓reduceIte, iv_add, iv_sub, iv_mul, iv_neg, iv_ltT, iv_ltF, iv_leT, iv_leF, iv_eqT, iv_eqF, iv_div, iv_mod, ↓bnI_s, ↓bnV_s, ↓bnJ_s, ↓bnR_s, rt_e, rt_0, rt_bz, sv_s, sv_o, ur_s, ur_e, ur_o, bz_T, bz_F, nat_eqF, Nat.reduceAdd]
    refine ⟨1, _, _, J, ?_, md, by omega, fun U K hU _ _ => ?_⟩
    · simp (disch := first | decide | omega | (simp (disch := first | decide | omega) only [sv_s, sv_o, ur_s, ur_e, ur_o]; omega)) only [↓reduceIte, iv_add, iv_sub, iv_mul, iv_neg, iv_ltT, iv_ltF, iv_leT, iv_leF, iv_eqT, iv_eqF, iv_div, iv_mod, ↓bnI_s, ↓bnV_s, ↓bnJ_s, ↓bnR_s, rt_e, rt_0, rt_bz, sv_s, sv_o, ur_s, ur_e, ur_o, bz_T, bz_F, nat_eqF, Nat.reduceAdd, ↓q_X_swap, ↓gR_8_0 F, ↓gR_9_0 F, ↓gd_8 F, il_0, il_1, il_2, il_10, il_26, cs, e1, tp]
    · obtain ⟨U', f1, f2, f3⟩ := y_keepA (V := U) (J := K) F (by rw [hU]; exact s2)
      rw [hU] at f3
      refine ⟨sv (sv U' 436 (17 + a) (U' 436 (17 + b))) 436 (17 + b) (U' 436 (17 + a)), K, ?_, (swapped_row (V := U') (a := a) (b := b)).trans (by rw [f3]), fun c j _ h => by simp (disch := first | decide | omega | (simp (disch := first | decide | omega) only [sv_s, sv_o, ur_s, ur_e, ur_o]; omega)) only [↓reduceIte, iv_add, iv_sub, iv_mul, iv_neg, iv_ltT, iv_ltF, iv_leT, iv_leF, iv_eqT, iv_eqF, iv_div, iv_mod, ↓bnI_s, ↓bnV_s, ↓bnJ_s, ↓bnR_s, rt_e, rt_0, rt_bz, sv_s, sv_o, ur_s, ur_e, ur_o, bz_T, bz_F, nat_eqF, Nat.reduceAdd, f2 c h]⟩
      simp (disch := first | decide | omega | (simp (disch := first | decide | omega) only [sv_s, sv_o, ur_s, ur_e, ur_o]; omega)) only [↓reduceIte, iv_add, iv_sub, iv_mul, iv_neg, iv_ltT, iv_ltF, iv_leT, iv_leF, iv_eqT, iv_eqF, iv_div, iv_mod, ↓bnI_s, ↓bnV_s, ↓bnJ_s, ↓bnR_s, rt_e, rt_0, rt_bz, sv_s, sv_o, ur_s, ur_e, ur_o, bz_T, bz_F, nat_eqF, Nat.reduceAdd, ↓q_M_swap, ↓gd_435 F, il_0, il_1, il_27, qa U K hU, qb U K hU, f1, y_swapNow F (a := a) (b := b)]
  · rw [bz_F h] at cs
    refine ⟨0, A, V, J, ?_, m, by omega, fun U K hU _ _ => ⟨U, K, ?_, hU, frM.rfl_⟩⟩
    · simp (disch := first | decide | omega | (simp (disch := first | decide | omega) only [sv_s, sv_o, ur_s, ur_e, ur_o]; omega)) only [↓reduceIte, iv_add, iv_sub, iv_mul, iv_neg, iv_ltT, iv_ltF, iv_leT, iv_leF, iv_eqT, iv_eqF, iv_div, iv_mod, ↓bnI_s, ↓bnV_s, ↓bnJ_s, ↓bnR_s, rt_e, rt_0, rt_bz, sv_s, sv_o, ur_s, ur_e, ur_o, bz_T, bz_F, nat_eqF, Nat.reduceAdd, ↓q_X_swap, ↓gR_8_0 F, ↓gR_9_0 F, ↓gd_8 F, il_0, il_1, il_2, il_10, il_26, cs]
    · by_cases h1 : 0 ≤ a ∧ a < A 0
      · rw [bz_T h1] at qa
        by_cases h2 : 0 ≤ b ∧ b < A 0
        · rw [bz_T h2] at qb
          have h3 : a = b := by omega
          simp (disch := first | decide | omega | (simp (disch := first | decide | omega) only [sv_s, sv_o, ur_s, ur_e, ur_o]; omega)) only [↓reduceIte, iv_add, iv_sub, iv_mul, iv_neg, iv_ltT, iv_ltF, iv_leT, iv_leF, iv_eqT, iv_eqF, iv_div, iv_mod, ↓bnI_s, ↓bnV_s, ↓bnJ_s, ↓bnR_s, rt_e, rt_0, rt_bz, sv_s, sv_o, ur_s, ur_e, ur_o, bz_T, bz_F, nat_eqF, Nat.reduceAdd, ↓q_M_swap, ↓gd_435 F, il_0, il_1, il_27, qa U K hU, qb U K hU, iv_eqT h3]
        · rw [bz_F h2] at qb
          simp (disch := first | decide | omega | (simp (disch := first | decide | omega) only [sv_s, sv_o, ur_s, ur_e, ur_o]; omega)) only [↓reduceIte, iv_add, iv_sub, iv_mul, iv_neg, iv_ltT, iv_ltF, iv_leT, iv_leF, iv_eqT, iv_eqF, iv_div, iv_mod, ↓bnI_s, ↓bnV_s, ↓bnJ_s, ↓bnR_s, rt_e, rt_0, rt_bz, sv_s, sv_o, ur_s, ur_e, ur_o, bz_T, bz_F, nat_eqF, Nat.reduceAdd, ↓q_M_swap, ↓gd_435 F, il_0, il_1, il_27, qa U K hU, qb U K hU]
      · rw [bz_F h1] at qa
        simp (disch := first | decide | omega | (simp (disch := first | decide | omega) only [sv_s, sv_o, ur_s, ur_e, ur_o]; omega)) only [↓reduceIte, iv_add, iv_sub, iv_mul, iv_neg, iv_ltT, iv_ltF, iv_leT, iv_leF, iv_eqT, iv_eqF, iv_div, iv_mod, ↓bnI_s, ↓bnV_s, ↓bnJ_s, ↓bnR_s, rt_e, rt_0, rt_bz, sv_s, sv_o, ur_s, ur_e, ur_o, bz_T, bz_F, nat_eqF, Nat.reduceAdd, ↓q_M_swap, ↓gd_435 F, il_0, il_1, il_27, qa U K hU]
end
