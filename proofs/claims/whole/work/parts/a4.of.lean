/-! OF WHOM; the laws asked of one -/
section
variable {V J : Vm} {z : Zz} {I0 : Nat → Nat → Int32} {TX : Vm → Zz → Nat → Int → Prop} {q : Nat} {i : Int} {rv bv : (Int → Int) → Int → Int}
theorem core_418 {V V' : Vm} (h : ∀ a, a ≠ 418 → V' a = V a) : core V' = core V := core_ext fun a k hs => by
  by_cases e : a = 418
  · rw [e, scr_T (by omega)] at hs; cases hs
  · rw [h a e]
theorem core_M {U U' : Vm} (h : frM U U') (h6 : U' 436 = U 436) : core U' = core U := core_ext fun a k hs => by
  by_cases e : a = 436
  · rw [e, h6]
  · exact h a k (Or.inl hs) e
theorem p_of (F : Fix z) (g : GI TX I0 V z) (L : Lc z V q i rv bv) {k w : Int} (hk : (-2147483648 ≤ k ∧ k < 2147483648)) (hw : (-2147483648 ≤ w ∧ w < 2147483648)) : Pq V J z (fun h => cA m_X_of [.ref 8, .int (iv k), .int (iv w)] h) (fun h => cA m_M_of [.ref 435, .int (iv k), .int (iv w)] h) := by
  have T := T10 F
  have gk : Kn V 10 (V 436) := g.1.1
  obtain ⟨n1, n2, n3, n4⟩ := id gk
  have n1 : V 10 5 = V 436 0 := n1
  have ps := n4.ps n2
  have h1 := y_has (J := J) T hk (V := V) (by omega)
  have m1 := y_isKin (J := J) F (V := V) hk n2
  by_cases h : 0 ≤ k ∧ k < V 436 0
  · rw [bz_T (by omega)] at h1
    rw [bz_T (by omega)] at m1
    obtain ⟨t1, t2, t3, t4, t5⟩ := n4.1 k h.1 h.2
    have t0 := (n3 k h.1 h.2).1
    have t0 : V 11 k = V 436 (23 + k) := t0
    have t1 : V 12 k = V 436 (11 + k) := t1
    have t2 : V 13 k = V 436 (17 + k) := t2
    have t6 : V 10 6 = V 436 10 := n4.2.2.1.1
    by_cases w0 : w = 0
    · subst w0
      exact ⟨V 436 (23 + k), V, J, V, J, (by simp (disch := first | decide | omega | (simp (disch := first | decide | omega) only [sv_s, sv_o, ur_s, ur_e, ur_o]; omega)) only [↓reduceIte, iv_add, iv_sub, iv_mul, iv_neg, iv_ltT, iv_ltF, iv_leT, iv_leF, iv_eqT, iv_eqF, iv_div, iv_mod, ↓bnI_s, ↓bnV_s, ↓bnJ_s, ↓bnR_s, rt_e, rt_0, rt_bz, sv_s, sv_o, ur_s, ur_e, ur_o, bz_T, bz_F, nat_eqF, Nat.reduceAdd, ↓q_X_of, ↓gR_8_0 F, ↓gR_9_0 F, ↓gR_10_0 F, ↓gR_10_1 F, ↓gR_10_2 F, ↓gR_8_3 F, ↓gI_10_5 F, ↓gd_8 F, il_0, il_1, il_2, il_3, il_4, il_5, il_6, il_7, il_10, il_26, h1, y_get (s_11 F) (by decide), rd_in, t0]), rfl, (by simp (disch := first | decide | omega | (simp (disch := first | decide | omega) only [sv_s, sv_o, ur_s, ur_e, ur_o]; omega)) only [↓reduceIte, iv_add, iv_sub, iv_mul, iv_neg, iv_ltT, iv_ltF, iv_leT, iv_leF, iv_eqT, iv_eqF, iv_div, iv_mod, ↓bnI_s, ↓bnV_s, ↓bnJ_s, ↓bnR_s, rt_e, rt_0, rt_bz, sv_s, sv_o, ur_s, ur_e, ur_o, bz_T, bz_F, nat_eqF, Nat.reduceAdd, ↓q_M_of, ↓gR_435_0 F, ↓lI_436 F, ↓lI_437 F, ↓lI_438 F, ↓lI_439 F, ↓lI_440 F, ↓lI_441 F, ↓lI_443 F, ↓lI_444 F, ↓lI_445 F, ↓lI_446 F, ↓lI_447 F, ↓lI_448 F, ↓lI_449 F, ↓lI_450 F, ↓gd_435 F, il_0, il_1, il_2, il_3, il_4, il_5, il_6, il_11, il_17, il_23, il_27, m1]), rfl⟩
    by_cases w1 : w = 1
    · subst w1
      exact ⟨V 436 (11 + k), V, J, V, J, (by simp (disch := first | decide | omega | (simp (disch := first | decide | omega) only [sv_s, sv_o, ur_s, ur_e, ur_o]; omega)) only [↓reduceIte, iv_add, iv_sub, iv_mul, iv_neg, iv_ltT, iv_ltF, iv_leT, iv_leF, iv_eqT, iv_eqF, iv_div, iv_mod, ↓bnI_s, ↓bnV_s, ↓bnJ_s, ↓bnR_s, rt_e, rt_0, rt_bz, sv_s, sv_o, ur_s, ur_e, ur_o, bz_T, bz_F, nat_eqF, Nat.reduceAdd, ↓q_X_of, ↓gR_8_0 F, ↓gR_9_0 F, ↓gR_10_0 F, ↓gR_10_1 F, ↓gR_10_2 F, ↓gR_8_3 F, ↓gI_10_5 F, ↓gd_8 F, il_0, il_1, il_2, il_3, il_4, il_5, il_6, il_7, il_10, il_26, h1, y_get (s_12 F) (by decide), rd_in, t1]), rfl, (by simp (disch := first | decide | omega | (simp (disch := first | decide | omega) only [sv_s, sv_o, ur_s, ur_e, ur_o]; omega)) only [↓reduceIte, iv_add, iv_sub, iv_mul, iv_neg, iv_ltT, iv_ltF, iv_leT, iv_leF, iv_eqT, iv_eqF, iv_div, iv_mod, ↓bnI_s, ↓bnV_s, ↓bnJ_s, ↓bnR_s, rt_e, rt_0, rt_bz, sv_s, sv_o, ur_s, ur_e, ur_o, bz_T, bz_F, nat_eqF, Nat.reduceAdd, ↓q_M_of, ↓gR_435_0 F, ↓lI_436 F, ↓lI_437 F, ↓lI_438 F, ↓lI_439 F, ↓lI_440 F, ↓lI_441 F, ↓lI_443 F, ↓lI_444 F, ↓lI_445 F, ↓lI_446 F, ↓lI_447 F, ↓lI_448 F, ↓lI_449 F, ↓lI_450 F, ↓gd_435 F, il_0, il_1, il_2, il_3, il_4, il_5, il_6, il_11, il_17, il_23, il_27, m1]), rfl⟩
    by_cases w2 : w = 2
    · subst w2
      exact ⟨V 436 (17 + k), V, J, V, J, (by simp (disch := first | decide | omega | (simp (disch := first | decide | omega) only [sv_s, sv_o, ur_s, ur_e, ur_o]; omega)) only [↓reduceIte, iv_add, iv_sub, iv_mul, iv_neg, iv_ltT, iv_ltF, iv_leT, iv_leF, iv_eqT, iv_eqF, iv_div, iv_mod, ↓bnI_s, ↓bnV_s, ↓bnJ_s, ↓bnR_s, rt_e, rt_0, rt_bz, sv_s, sv_o, ur_s, ur_e, ur_o, bz_T, bz_F, nat_eqF, Nat.reduceAdd, ↓q_X_of, ↓gR_8_0 F, ↓gR_9_0 F, ↓gR_10_0 F, ↓gR_10_1 F, ↓gR_10_2 F, ↓gR_8_3 F, ↓gI_10_5 F, ↓gd_8 F, il_0, il_1, il_2, il_3, il_4, il_5, il_6, il_7, il_10, il_26, h1, y_get (s_13 F) (by decide), rd_in, t2]), rfl, (by simp (disch := first | decide | omega | (simp (disch := first | decide | omega) only [sv_s, sv_o, ur_s, ur_e, ur_o]; omega)) only [↓reduceIte, iv_add, iv_sub, iv_mul, iv_neg, iv_ltT, iv_ltF, iv_leT, iv_leF, iv_eqT, iv_eqF, iv_div, iv_mod, ↓bnI_s, ↓bnV_s, ↓bnJ_s, ↓bnR_s, rt_e, rt_0, rt_bz, sv_s, sv_o, ur_s, ur_e, ur_o, bz_T, bz_F, nat_eqF, Nat.reduceAdd, ↓q_M_of, ↓gR_435_0 F, ↓lI_436 F, ↓lI_437 F, ↓lI_438 F, ↓lI_439 F, ↓lI_440 F, ↓lI_441 F, ↓lI_443 F, ↓lI_444 F, ↓lI_445 F, ↓lI_446 F, ↓lI_447 F, ↓lI_448 F, ↓lI_449 F, ↓lI_450 F, ↓gd_435 F, il_0, il_1, il_2, il_3, il_4, il_5, il_6, il_11, il_17, il_23, il_27, m1]), rfl⟩
    by_cases w3 : w = 3
    · subst w3
      have s1 := y_isStrapped (J := J) T (V := V) (k := k)
      have s2 := y_M_isStrapped (J := J) F (V := V) (k := k)
      rw [t6] at s1
      by_cases b : sb (V 436 10) k
      · rw [bz_T b] at s1 s2
        exact ⟨1, V, J, V, J, (by simp (disch := first | decide | omega | (simp (disch := first | decide | omega) only [sv_s, sv_o, ur_s, ur_e, ur_o]; omega)) only [↓reduceIte, iv_add, iv_sub, iv_mul, iv_neg, iv_ltT, iv_ltF, iv_leT, iv_leF, iv_eqT, iv_eqF, iv_div, iv_mod, ↓bnI_s, ↓bnV_s, ↓bnJ_s, ↓bnR_s, rt_e, rt_0, rt_bz, sv_s, sv_o, ur_s, ur_e, ur_o, bz_T, bz_F, nat_eqF, Nat.reduceAdd, ↓q_X_of, ↓gR_8_0 F, ↓gR_9_0 F, ↓gR_10_0 F, ↓gR_10_1 F, ↓gR_10_2 F, ↓gR_8_3 F, ↓gI_10_5 F, ↓gd_8 F, il_0, il_1, il_2, il_3, il_4, il_5, il_6, il_7, il_10, il_26, h1, s1]), rfl, (by simp (disch := first | decide | omega | (simp (disch := first | decide | omega) only [sv_s, sv_o, ur_s, ur_e, ur_o]; omega)) only [↓reduceIte, iv_add, iv_sub, iv_mul, iv_neg, iv_ltT, iv_ltF, iv_leT, iv_leF, iv_eqT, iv_eqF, iv_div, iv_mod, ↓bnI_s, ↓bnV_s, ↓bnJ_s, ↓bnR_s, rt_e, rt_0, rt_bz, sv_s, sv_o, ur_s, ur_e, ur_o, bz_T, bz_F, nat_eqF, Nat.reduceAdd, ↓q_M_of, ↓gR_435_0 F, ↓lI_436 F, ↓lI_437 F, ↓lI_438 F, ↓lI_439 F, ↓lI_440 F, ↓lI_441 F, ↓lI_443 F, ↓lI_444 F, ↓lI_445 F, ↓lI_446 F, ↓lI_447 F, ↓lI_448 F, ↓lI_449 F, ↓lI_450 F, ↓gd_435 F, il_0, il_1, il_2, il_3, il_4, il_5, il_6, il_11, il_17, il_23, il_27, m1, s2]), rfl⟩
      · rw [bz_F b] at s1 s2
        exact ⟨0, V, J, V, J, (by simp (disch := first | decide | omega | (simp (disch := first | decide | omega) only [sv_s, sv_o, ur_s, ur_e, ur_o]; omega)) only [↓reduceIte, iv_add, iv_sub, iv_mul, iv_neg, iv_ltT, iv_ltF, iv_leT, iv_leF, iv_eqT, iv_eqF, iv_div, iv_mod, ↓bnI_s, ↓bnV_s, ↓bnJ_s, ↓bnR_s, rt_e, rt_0, rt_bz, sv_s, sv_o, ur_s, ur_e, ur_o, bz_T, bz_F, nat_eqF, Nat.reduceAdd, ↓q_X_of, ↓gR_8_0 F, ↓gR_9_0 F, ↓gR_10_0 F, ↓gR_10_1 F, ↓gR_10_2 F, ↓gR_8_3 F, ↓gI_10_5 F, ↓gd_8 F, il_0, il_1, il_2, il_3, il_4, il_5, il_6, il_7, il_10, il_26, h1, s1]), rfl, (by simp (disch := first | decide | omega | (simp (disch := first | decide | omega) only [sv_s, sv_o, ur_s, ur_e, ur_o]; omega)) only [↓reduceIte, iv_add, iv_sub, iv_mul, iv_neg, iv_ltT, iv_ltF, iv_leT, iv_leF, iv_eqT, iv_eqF, iv_div, iv_mod, ↓bnI_s, ↓bnV_s, ↓bnJ_s, ↓bnR_s, rt_e, rt_0, rt_bz, sv_s, sv_o, ur_s, ur_e, ur_o, bz_T, bz_F, nat_eqF, Nat.reduceAdd, ↓q_M_of, ↓gR_435_0 F, ↓lI_436 F, ↓lI_437 F, ↓lI_438 F, ↓lI_439 F, ↓lI_440 F, ↓lI_441 F, ↓lI_443 F, ↓lI_444 F, ↓lI_445 F, ↓lI_446 F, ↓lI_447 F, ↓lI_448 F, ↓lI_449 F, ↓lI_450 F, ↓gd_435 F, il_0, il_1, il_2, il_3, il_4, il_5, il_6, il_11, il_17, il_23, il_27, m1, s2]), rfl⟩
    have lw := L.2.2 V J rfl rfl
    have i2 := L.2.1
    obtain ⟨_, _, c1, c2⟩ := L.1 (V 436) k ⟨V, 10, gk⟩ h.1 h.2
    obtain ⟨⟨V1, a1, a2⟩, V2, b1, b2⟩ := c1 V J 10 (fun _ _ => rfl) T (by omega) gk
    by_cases w4 : w = 4
    · subst w4
      have hm : cA m_M_isKin [.ref 435, .int (iv k)] (em V1 J z) = some (.int (iv 1), em V1 J z) := by
        have m2 := y_isKin (J := J) F (V := V1) hk (by rw [a2 436 (by decide)]; exact n2)
        rw [a2 436 (by decide), bz_T (by omega)] at m2
        exact m2
      obtain ⟨⟨U', K', d1, d2, d3, d4⟩, _⟩ := c2 V1 J 1 (V 436) (RW.of (a2 436 (by decide))) (a2 438 (by decide))
      have v2 : V1 436 2 = i := by rw [a2 436 (by decide)]; exact i2
      refine ⟨rv (V 436) k, V1, J, U', K', ?_, core_418 a2, ?_, (core_M d2 d3).trans (core_418 a2)⟩
      · simp (disch := first | decide | omega | (simp (disch := first | decide | omega) only [sv_s, sv_o, ur_s, ur_e, ur_o]; omega)) only [↓reduceIte, iv_add, iv_sub, iv_mul, iv_neg, iv_ltT, iv_ltF, iv_leT, iv_leF, iv_eqT, iv_eqF, iv_div, iv_mod, ↓bnI_s, ↓bnV_s, ↓bnJ_s, ↓bnR_s, rt_e, rt_0, rt_bz, sv_s, sv_o, ur_s, ur_e, ur_o, bz_T, bz_F, nat_eqF, Nat.reduceAdd, ↓q_X_of, ↓gR_8_0 F, ↓gR_9_0 F, ↓gR_10_0 F, ↓gR_10_1 F, ↓gR_10_2 F, ↓gR_8_3 F, ↓gI_10_5 F, ↓gd_8 F, il_0, il_1, il_2, il_3, il_4, il_5, il_6, il_7, il_10, il_26, h1, lw, a1]
      · simp (disch := first | decide | omega | (simp (disch := first | decide | omega) only [sv_s, sv_o, ur_s, ur_e, ur_o]; omega)) only [↓reduceIte, iv_add, iv_sub, iv_mul, iv_neg, iv_ltT, iv_ltF, iv_leT, iv_leF, iv_eqT, iv_eqF, iv_div, iv_mod, ↓bnI_s, ↓bnV_s, ↓bnJ_s, ↓bnR_s, rt_e, rt_0, rt_bz, sv_s, sv_o, ur_s, ur_e, ur_o, bz_T, bz_F, nat_eqF, Nat.reduceAdd, ↓q_M_of, ↓gR_435_0 F, ↓lI_436 F, ↓lI_437 F, ↓lI_438 F, ↓lI_439 F, ↓lI_440 F, ↓lI_441 F, ↓lI_443 F, ↓lI_444 F, ↓lI_445 F, ↓lI_446 F, ↓lI_447 F, ↓lI_448 F, ↓lI_449 F, ↓lI_450 F, ↓gd_435 F, il_0, il_1, il_2, il_3, il_4, il_5, il_6, il_11, il_17, il_23, il_27, hm, v2, d1]
    by_cases w5 : w = 5
    · subst w5
      have hm : cA m_M_isKin [.ref 435, .int (iv k)] (em V2 J z) = some (.int (iv 1), em V2 J z) := by
        have m2 := y_isKin (J := J) F (V := V2) hk (by rw [b2 436 (by decide)]; exact n2)
        rw [b2 436 (by decide), bz_T (by omega)] at m2
        exact m2
      obtain ⟨_, e⟩ := c2 V2 J 1 (V 436) (RW.of (b2 436 (by decide))) (b2 438 (by decide))
      obtain ⟨U', K', d1, d2, d3, d4⟩ := e i2
      refine ⟨bv (V 436) k, V2, J, U', K', ?_, core_418 b2, ?_, (core_M d2 d3).trans (core_418 b2)⟩
      · simp (disch := first | decide | omega | (simp (disch := first | decide | omega) only [sv_s, sv_o, ur_s, ur_e, ur_o]; omega)) only [↓reduceIte, iv_add, iv_sub, iv_mul, iv_neg, iv_ltT, iv_ltF, iv_leT, iv_leF, iv_eqT, iv_eqF, iv_div, iv_mod, ↓bnI_s, ↓bnV_s, ↓bnJ_s, ↓bnR_s, rt_e, rt_0, rt_bz, sv_s, sv_o, ur_s, ur_e, ur_o, bz_T, bz_F, nat_eqF, Nat.reduceAdd, ↓q_X_of, ↓gR_8_0 F, ↓gR_9_0 F, ↓gR_10_0 F, ↓gR_10_1 F, ↓gR_10_2 F, ↓gR_8_3 F, ↓gI_10_5 F, ↓gd_8 F, il_0, il_1, il_2, il_3, il_4, il_5, il_6, il_7, il_10, il_26, h1, lw, b1]
      · simp (disch := first | decide | omega | (simp (disch := first | decide | omega) only [sv_s, sv_o, ur_s, ur_e, ur_o]; omega)) only [↓reduceIte, iv_add, iv_sub, iv_mul, iv_neg, iv_ltT, iv_ltF, iv_leT, iv_leF, iv_eqT, iv_eqF, iv_div, iv_mod, ↓bnI_s, ↓bnV_s, ↓bnJ_s, ↓bnR_s, rt_e, rt_0, rt_bz, sv_s, sv_o, ur_s, ur_e, ur_o, bz_T, bz_F, nat_eqF, Nat.reduceAdd, ↓q_M_of, ↓gR_435_0 F, ↓lI_436 F, ↓lI_437 F, ↓lI_438 F, ↓lI_439 F, ↓lI_440 F, ↓lI_441 F, ↓lI_443 F, ↓lI_444 F, ↓lI_445 F, ↓lI_446 F, ↓lI_447 F, ↓lI_448 F, ↓lI_449 F, ↓lI_450 F, ↓gd_435 F, il_0, il_1, il_2, il_3, il_4, il_5, il_6, il_11, il_17, il_23, il_27, hm, d1]
    by_cases w6 : w = 6
    · subst w6
      have f1 := y_whoFrom (J := J) T n1 n2 n4 h (f := V 436 0 / 2) (by omega)
      have f2 := y_acrossOf (J := J) F ps h
      exact ⟨fur (V 436) k (V 436 0 / 2), V, J, V, J, (by simp (disch := first | decide | omega | (simp (disch := first | decide | omega) only [sv_s, sv_o, ur_s, ur_e, ur_o]; omega)) only [↓reduceIte, iv_add, iv_sub, iv_mul, iv_neg, iv_ltT, iv_ltF, iv_leT, iv_leF, iv_eqT, iv_eqF, iv_div, iv_mod, ↓bnI_s, ↓bnV_s, ↓bnJ_s, ↓bnR_s, rt_e, rt_0, rt_bz, sv_s, sv_o, ur_s, ur_e, ur_o, bz_T, bz_F, nat_eqF, Nat.reduceAdd, ↓q_X_of, ↓gR_8_0 F, ↓gR_9_0 F, ↓gR_10_0 F, ↓gR_10_1 F, ↓gR_10_2 F, ↓gR_8_3 F, ↓gI_10_5 F, ↓gd_8 F, il_0, il_1, il_2, il_3, il_4, il_5, il_6, il_7, il_10, il_26, h1, n1, f1]), rfl, (by simp (disch := first | decide | omega | (simp (disch := first | decide | omega) only [sv_s, sv_o, ur_s, ur_e, ur_o]; omega)) only [↓reduceIte, iv_add, iv_sub, iv_mul, iv_neg, iv_ltT, iv_ltF, iv_leT, iv_leF, iv_eqT, iv_eqF, iv_div, iv_mod, ↓bnI_s, ↓bnV_s, ↓bnJ_s, ↓bnR_s, rt_e, rt_0, rt_bz, sv_s, sv_o, ur_s, ur_e, ur_o, bz_T, bz_F, nat_eqF, Nat.reduceAdd, ↓q_M_of, ↓gR_435_0 F, ↓lI_436 F, ↓lI_437 F, ↓lI_438 F, ↓lI_439 F, ↓lI_440 F, ↓lI_441 F, ↓lI_443 F, ↓lI_444 F, ↓lI_445 F, ↓lI_446 F, ↓lI_447 F, ↓lI_448 F, ↓lI_449 F, ↓lI_450 F, ↓gd_435 F, il_0, il_1, il_2, il_3, il_4, il_5, il_6, il_11, il_17, il_23, il_27, m1, f2]), rfl⟩
    exact ⟨-1, V, J, V, J, (by simp (disch := first | decide | omega | (simp (disch := first | decide | omega) only [sv_s, sv_o, ur_s, ur_e, ur_o]; omega)) only [↓reduceIte, iv_add, iv_sub, iv_mul, iv_neg, iv_ltT, iv_ltF, iv_leT, iv_leF, iv_eqT, iv_eqF, iv_div, iv_mod, ↓bnI_s, ↓bnV_s, ↓bnJ_s, ↓bnR_s, rt_e, rt_0, rt_bz, sv_s, sv_o, ur_s, ur_e, ur_o, bz_T, bz_F, nat_eqF, Nat.reduceAdd, ↓q_X_of, ↓gR_8_0 F, ↓gR_9_0 F, ↓gR_10_0 F, ↓gR_10_1 F, ↓gR_10_2 F, ↓gR_8_3 F, ↓gI_10_5 F, ↓gd_8 F, il_0, il_1, il_2, il_3, il_4, il_5, il_6, il_7, il_10, il_26, h1]), rfl, (by simp (disch := first | decide | omega | (simp (disch := first | decide | omega) only [sv_s, sv_o, ur_s, ur_e, ur_o]; omega)) only [↓reduceIte, iv_add, iv_sub, iv_mul, iv_neg, iv_ltT, iv_ltF, iv_leT, iv_leF, iv_eqT, iv_eqF, iv_div, iv_mod, ↓bnI_s, ↓bnV_s, ↓bnJ_s, ↓bnR_s, rt_e, rt_0, rt_bz, sv_s, sv_o, ur_s, ur_e, ur_o, bz_T, bz_F, nat_eqF, Nat.reduceAdd, ↓q_M_of, ↓gR_435_0 F, ↓lI_436 F, ↓lI_437 F, ↓lI_438 F, ↓lI_439 F, ↓lI_440 F, ↓lI_441 F, ↓lI_443 F, ↓lI_444 F, ↓lI_445 F, ↓lI_446 F, ↓lI_447 F, ↓lI_448 F, ↓lI_449 F, ↓lI_450 F, ↓gd_435 F, il_0, il_1, il_2, il_3, il_4, il_5, il_6, il_11, il_17, il_23, il_27, m1]), rfl⟩
  · rw [bz_F (by omega)] at h1
    rw [bz_F (by omega)] at m1
    exact ⟨-1, V, J, V, J, (by simp (disch := first | decide | omega | (simp (disch := first | decide | omega) only [sv_s, sv_o, ur_s, ur_e, ur_o]; omega)) only [↓reduceIte, iv_add, iv_sub, iv_mul, iv_neg, iv_ltT, iv_ltF, iv_leT, iv_leF, iv_eqT, iv_eqF, iv_div, iv_mod, ↓bnI_s, ↓bnV_s, ↓bnJ_s, ↓bnR_s, rt_e, rt_0, rt_bz, sv_s, sv_o, ur_s, ur_e, ur_o, bz_T, bz_F, nat_eqF, Nat.reduceAdd, ↓q_X_of, ↓gR_8_0 F, ↓gR_9_0 F, ↓gR_10_0 F, ↓gR_10_1 F, ↓gR_10_2 F, ↓gR_8_3 F, ↓gI_10_5 F, ↓gd_8 F, il_0, il_1, il_2, il_3, il_4, il_5, il_6, il_7, il_10, il_26, h1]), rfl, (by simp (disch := first | decide | omega | (simp (disch := first | decide | omega) only [sv_s, sv_o, ur_s, ur_e, ur_o]; omega)) only [↓reduceIte, iv_add, iv_sub, iv_mul, iv_neg, iv_ltT, iv_ltF, iv_leT, iv_leF, iv_eqT, iv_eqF, iv_div, iv_mod, ↓bnI_s, ↓bnV_s, ↓bnJ_s, ↓bnR_s, rt_e, rt_0, rt_bz, sv_s, sv_o, ur_s, ur_e, ur_o, bz_T, bz_F, nat_eqF, Nat.reduceAdd, ↓q_M_of, ↓gR_435_0 F, ↓lI_436 F, ↓lI_437 F, ↓lI_438 F, ↓lI_439 F, ↓lI_440 F, ↓lI_441 F, ↓lI_443 F, ↓lI_444 F, ↓lI_445 F, ↓lI_446 F, ↓lI_447 F, ↓lI_448 F, ↓lI_449 F, ↓lI_450 F, ↓gd_435 F, il_0, il_1, il_2, il_3, il_4, il_5, il_6, il_11, il_17, il_23, il_27, m1]), rfl⟩
end
