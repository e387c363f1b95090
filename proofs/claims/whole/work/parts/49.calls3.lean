/-! the tape; some questions -/
section
variable {TX : Vm → Zz → Nat → Int → Prop} {I0 : Nat → Nat → Int32} {V V' J : Vm} {z : Zz}
/-- the table and the steps are new, all else of the house is as it was -/
theorem HR_K (T : TXok TX) {A A' : Int → Int} (hV : ∀ a, (16 ≤ a ∧ a < 30) ∨ 450 < a ∨ a = 438 → V' a = V a) (h11 : V' 9 11 = V 9 11) (h12 : V' 9 12 = V 9 12) (hA : ∀ k, k = 1 ∨ k = 2 ∨ k = 4 ∨ k = 5 ∨ k = 6 ∨ (35 ≤ k ∧ k < 165) → A' k = A k) (h0 : A 0 ≤ A' 0) (k : Kn V' 10 A') (s : Sts V' 9 A') (h : HR TX V z 9 A) : HR TX V' z 9 A' := by
  obtain ⟨c1, c2, c3, c4, c5, c6, c7, c8, d1, d2, d3, d4, d5⟩ := h
  refine ⟨k, s, Spi_c (hV _ (by omega)) (fun k h1 h2 => hA k (by omega)) c3, Hed_c (hV _ (by omega)) (fun k h1 h2 => hA k (by omega)) c4, Gai_c (hV _ (by omega)) (fun k h1 h2 => hA k (by omega)) c5, Gue_c (hV _ (by omega)) (hV _ (by omega)) (hV _ (by omega)) (hA _ (by omega)) (fun k h1 h2 => hA k (by omega)) c6, Say_c (hV _ (by omega)) (hV _ (by omega)) (hV _ (by omega)) (hA _ (by omega)) (fun k h1 h2 => hA k (by omega)) c7, ?_, ?_⟩
  · obtain ⟨e1, e2, e3⟩ := c8
    unfold Tld
    rw [hV _ (by omega), hV _ (by omega), hV _ (by omega), hA 6 (by omega)]
    refine ⟨e1, e2, fun i i0 i1 => ?_⟩
    rw [hA _ (by omega), hA _ (by omega)]
    have := e3 i i0 i1
    exact ⟨this.1, this.2.1, ⟨this.2.2.1.1, by omega⟩, this.2.2.2⟩
  · unfold Txs
    rw [h11, h12, hA 1 (by omega), hA 2 (by omega)]
    exact ⟨d1, d2, d3, d4, fun i i0 i1 => T V V' z _ i (hV _ (by omega)) (fun a ha => hV a (by omega)) (d5 i i0 i1)⟩
theorem GI_tap (T : TXok TX) (g : GI TX I0 V z) (hx : ∀ a k, scr a k = false → ¬ (a = 419 ∧ k = 1) → ¬ (a = 435 ∧ k = 4) → a ≠ 420 → a ≠ 439 → V' a k = V a k) (t : Tap V') : GI TX I0 V' z := by
  obtain ⟨g1, g2, g3, g4, g5, g6, g7, g8⟩ := g
  have row : ∀ a, (a < 411 ∨ a = 432 ∨ (436 ≤ a ∧ a < 439) ∨ 450 < a) → V' a = V a := fun a h1 => funext fun k => hx a k (scr_F (by omega)) (by omega) (by omega) (by omega) (by omega)
  have e6 : V' 436 = V 436 := row 436 (by omega)
  have e7 : V' 437 = V 437 := row 437 (by omega)
  unfold GI
  rw [e6, e7]
  refine ⟨HR_c T (fun a ha => row a (by omega)) g1, HR_c T (fun a ha => row a (by omega)) g2, g3, t, ?_, ?_, ?_, ?_⟩
  · unfold Fau at *
    rw [hx 424 9 (scr_F (by omega)) (by omega) (by omega) (by omega) (by omega), hx 424 10 (scr_F (by omega)) (by omega) (by omega) (by omega) (by omega), hx 435 5 (scr_F (by omega)) (by omega) (by omega) (by omega) (by omega), hx 435 6 (scr_F (by omega)) (by omega) (by omega) (by omega) (by omega)]
    exact g5
  · intro r hr
    rw [row 432 (by omega)]; exact g6 r hr
  · rw [hx 435 23 (scr_F (by omega)) (by omega) (by omega) (by omega) (by omega)]; exact g7
  · intro a ha k
    rw [row a (by omega)]; exact g8 a ha k
theorem p_end (F : Fix z) (T : TXok TX) (g : GI TX I0 V z) {n : Int} (hn : (-2147483648 ≤ n ∧ n < 2147483648)) : Pc TX I0 V J z (fun h => cA m_X_end [.ref 8, .int (iv n)] h) (fun h => cA m_M_end [.ref 435, .int (iv n)] h) := by
  obtain ⟨t1, t2, t3⟩ := g.2.2.2.1
  by_cases h : 0 ≤ n ∧ n ≤ V 435 4
  · refine ⟨n, sv V 419 1 n, J, sv (sv V 419 1 n) 435 4 n, J, ?_, ?_, ?_⟩
    · simp (disch := first | decide | omega | (simp (disch := first | decide | omega) only [sv_s, sv_o, ur_s, ur_e, ur_o]; omega)) only [↓reduceIte, iv_add, iv_sub, iv_mul, iv_neg, iv_ltT, iv_ltF, iv_leT, iv_leF, iv_eqT, iv_eqF, iv_div, iv_mod, ↓bnI_s, ↓bnV_s, ↓bnJ_s, ↓bnR_s, rt_e, rt_0, rt_bz, sv_s, sv_o, ur_s, ur_e, ur_o, bz_T, bz_F, nat_eqF, Nat.reduceAdd, ↓q_X_end, ↓gR_8_4 F, ↓gI_419_1 F, ↓pI_419_1 F, ↓gd_8 F, il_0, il_1, il_4, il_8, il_10, il_26, y_within]
    · simp (disch := first | decide | omega | (simp (disch := first | decide | omega) only [sv_s, sv_o, ur_s, ur_e, ur_o]; omega)) only [↓reduceIte, iv_add, iv_sub, iv_mul, iv_neg, iv_ltT, iv_ltF, iv_leT, iv_leF, iv_eqT, iv_eqF, iv_div, iv_mod, ↓bnI_s, ↓bnV_s, ↓bnJ_s, ↓bnR_s, rt_e, rt_0, rt_bz, sv_s, sv_o, ur_s, ur_e, ur_o, bz_T, bz_F, nat_eqF, Nat.reduceAdd, ↓q_M_end, ↓gI_435_4 F, ↓pI_435_4 F, ↓gd_435 F, il_0, il_1, il_4, il_11, il_27, y_isIn]
    · refine GI_tap T g (fun a k hs h1 h2 h3 h4 => ?_) ⟨?_, ?_, fun i i0 i1 => ?_⟩
      · by_cases q : a = 435
        · subst q; simp (disch := first | decide | omega | (simp (disch := first | decide | omega) only [sv_s, sv_o, ur_s, ur_e, ur_o]; omega)) only [↓reduceIte, iv_add, iv_sub, iv_mul, iv_neg, iv_ltT, iv_ltF, iv_leT, iv_leF, iv_eqT, iv_eqF, iv_div, iv_mod, ↓bnI_s, ↓bnV_s, ↓bnJ_s, ↓bnR_s, rt_e, rt_0, rt_bz, sv_s, sv_o, ur_s, ur_e, ur_o, bz_T, bz_F, nat_eqF, Nat.reduceAdd]
        · rw [sv_o q]
          by_cases q2 : a = 419
          · subst q2; simp (disch := first | decide | omega | (simp (disch := first | decide | omega) only [sv_s, sv_o, ur_s, ur_e, ur_o]; omega)) only [↓reduceIte, iv_add, iv_sub, iv_mul, iv_neg, iv_ltT, iv_ltF, iv_leT, iv_leF, iv_eqT, iv_eqF, iv_div, iv_mod, ↓bnI_s, ↓bnV_s, ↓bnJ_s, ↓bnR_s, rt_e, rt_0, rt_bz, sv_s, sv_o, ur_s, ur_e, ur_o, bz_T, bz_F, nat_eqF, Nat.reduceAdd]
          · rw [sv_o q2]
      · simp (disch := first | decide | omega | (simp (disch := first | decide | omega) only [sv_s, sv_o, ur_s, ur_e, ur_o]; omega)) only [↓reduceIte, iv_add, iv_sub, iv_mul, iv_neg, iv_ltT, iv_ltF, iv_leT, iv_leF, iv_eqT, iv_eqF, iv_div, iv_mod, ↓bnI_s, ↓bnV_s, ↓bnJ_s, ↓bnR_s, rt_e, rt_0, rt_bz, sv_s, sv_o, ur_s, ur_e, ur_o, bz_T, bz_F, nat_eqF, Nat.reduceAdd]
      · simp (disch := first | decide | omega | (simp (disch := first | decide | omega) only [sv_s, sv_o, ur_s, ur_e, ur_o]; omega)) only [↓reduceIte, iv_add, iv_sub, iv_mul, iv_neg, iv_ltT, iv_ltF, iv_leT, iv_leF, iv_eqT, iv_eqF, iv_div, iv_mod, ↓bnI_s, ↓bnV_s, ↓bnJ_s, ↓bnR_s, rt_e, rt_0, rt_bz, sv_s, sv_o, ur_s, ur_e, ur_o, bz_T, bz_F, nat_eqF, Nat.reduceAdd]; omega
      · rw [show sv (sv V 419 1 n) 435 4 n 435 4 = n by simp (disch := first | decide | omega | (simp (disch := first | decide | omega) only [sv_s, sv_o, ur_s, ur_e, ur_o]; omega)) only [↓reduceIte, iv_add, iv_sub, iv_mul, iv_neg, iv_ltT, iv_ltF, iv_leT, iv_leF, iv_eqT, iv_eqF, iv_div, iv_mod, ↓bnI_s, ↓bnV_s, ↓bnJ_s, ↓bnR_s, rt_e, rt_0, rt_bz, sv_s, sv_o, ur_s, ur_e, ur_o, bz_T, bz_F, nat_eqF, Nat.reduceAdd]] at i1
        simp (disch := first | decide | omega | (simp (disch := first | decide | omega) only [sv_s, sv_o, ur_s, ur_e, ur_o]; omega)) only [↓reduceIte, iv_add, iv_sub, iv_mul, iv_neg, iv_ltT, iv_ltF, iv_leT, iv_leF, iv_eqT, iv_eqF, iv_div, iv_mod, ↓bnI_s, ↓bnV_s, ↓bnJ_s, ↓bnR_s, rt_e, rt_0, rt_bz, sv_s, sv_o, ur_s, ur_e, ur_o, bz_T, bz_F, nat_eqF, Nat.reduceAdd]
        exact t3 i i0 (by omega)
  · exact Pq.pc T g ⟨-1, V, J, V, J, (by simp (disch := first | decide | omega | (simp (disch := first | decide | omega) only [sv_s, sv_o, ur_s, ur_e, ur_o]; omega)) only [↓reduceIte, iv_add, iv_sub, iv_mul, iv_neg, iv_ltT, iv_ltF, iv_leT, iv_leF, iv_eqT, iv_eqF, iv_div, iv_mod, ↓bnI_s, ↓bnV_s, ↓bnJ_s, ↓bnR_s, rt_e, rt_0, rt_bz, sv_s, sv_o, ur_s, ur_e, ur_o, bz_T, bz_F, nat_eqF, Nat.reduceAdd, ↓q_X_end, ↓gR_8_4 F, ↓gI_419_1 F, ↓pI_419_1 F, ↓gd_8 F, il_0, il_1, il_4, il_8, il_10, il_26, y_within]), rfl, (by simp (disch := first | decide | omega | (simp (disch := first | decide | omega) only [sv_s, sv_o, ur_s, ur_e, ur_o]; omega)) only [↓reduceIte, iv_add, iv_sub, iv_mul, iv_neg, iv_ltT, iv_ltF, iv_leT, iv_leF, iv_eqT, iv_eqF, iv_div, iv_mod, ↓bnI_s, ↓bnV_s, ↓bnJ_s, ↓bnR_s, rt_e, rt_0, rt_bz, sv_s, sv_o, ur_s, ur_e, ur_o, bz_T, bz_F, nat_eqF, Nat.reduceAdd, ↓q_M_end, ↓gI_435_4 F, ↓pI_435_4 F, ↓gd_435 F, il_0, il_1, il_4, il_11, il_27, y_isIn]), rfl⟩
theorem p_fault (F : Fix z) (g : GI TX I0 V z) {n : Int} (hn : (-2147483648 ≤ n ∧ n < 2147483648)) : Pq V J z (fun h => cA m_X_fault [.ref 8, .int (iv n)] h) (fun h => cA m_M_fault [.ref 435, .int (iv n)] h) := by
  obtain ⟨f1, f2, f3, f4⟩ := g.2.2.2.2.1
  by_cases h0 : n = 0
  · subst h0
    exact ⟨V 435 5, V, J, V, J, (by simp (disch := first | decide | omega | (simp (disch := first | decide | omega) only [sv_s, sv_o, ur_s, ur_e, ur_o]; omega)) only [↓reduceIte, iv_add, iv_sub, iv_mul, iv_neg, iv_ltT, iv_ltF, iv_leT, iv_leF, iv_eqT, iv_eqF, iv_div, iv_mod, ↓bnI_s, ↓bnV_s, ↓bnJ_s, ↓bnR_s, rt_e, rt_0, rt_bz, sv_s, sv_o, ur_s, ur_e, ur_o, bz_T, bz_F, nat_eqF, Nat.reduceAdd, ↓q_X_fault, ↓gR_8_5 F, ↓gI_424_9 F, ↓gI_424_10 F, ↓gd_8 F, il_0, il_1, il_4, il_5, il_9, il_10, il_26, f1]), rfl, (by simp (disch := first | decide | omega | (simp (disch := first | decide | omega) only [sv_s, sv_o, ur_s, ur_e, ur_o]; omega)) only [↓reduceIte, iv_add, iv_sub, iv_mul, iv_neg, iv_ltT, iv_ltF, iv_leT, iv_leF, iv_eqT, iv_eqF, iv_div, iv_mod, ↓bnI_s, ↓bnV_s, ↓bnJ_s, ↓bnR_s, rt_e, rt_0, rt_bz, sv_s, sv_o, ur_s, ur_e, ur_o, bz_T, bz_F, nat_eqF, Nat.reduceAdd, ↓q_M_fault, ↓gI_435_5 F, ↓gI_435_6 F, ↓gd_435 F, il_0, il_1, il_5, il_6, il_11, il_27]), rfl⟩
  · by_cases h1 : n = 1
    · subst h1
      exact ⟨V 435 6, V, J, V, J, (by simp (disch := first | decide | omega | (simp (disch := first | decide | omega) only [sv_s, sv_o, ur_s, ur_e, ur_o]; omega)) only [↓reduceIte, iv_add, iv_sub, iv_mul, iv_neg, iv_ltT, iv_ltF, iv_leT, iv_leF, iv_eqT, iv_eqF, iv_div, iv_mod, ↓bnI_s, ↓bnV_s, ↓bnJ_s, ↓bnR_s, rt_e, rt_0, rt_bz, sv_s, sv_o, ur_s, ur_e, ur_o, bz_T, bz_F, nat_eqF, Nat.reduceAdd, ↓q_X_fault, ↓gR_8_5 F, ↓gI_424_9 F, ↓gI_424_10 F, ↓gd_8 F, il_0, il_1, il_4, il_5, il_9, il_10, il_26, f3]), rfl, (by simp (disch := first | decide | omega | (simp (disch := first | decide | omega) only [sv_s, sv_o, ur_s, ur_e, ur_o]; omega)) only [↓reduceIte, iv_add, iv_sub, iv_mul, iv_neg, iv_ltT, iv_ltF, iv_leT, iv_leF, iv_eqT, iv_eqF, iv_div, iv_mod, ↓bnI_s, ↓bnV_s, ↓bnJ_s, ↓bnR_s, rt_e, rt_0, rt_bz, sv_s, sv_o, ur_s, ur_e, ur_o, bz_T, bz_F, nat_eqF, Nat.reduceAdd, ↓q_M_fault, ↓gI_435_5 F, ↓gI_435_6 F, ↓gd_435 F, il_0, il_1, il_5, il_6, il_11, il_27]), rfl⟩
    · exact ⟨-1, V, J, V, J, (by simp (disch := first | decide | omega | (simp (disch := first | decide | omega) only [sv_s, sv_o, ur_s, ur_e, ur_o]; omega)) only [↓reduceIte, iv_add, iv_sub, iv_mul, iv_neg, iv_ltT, iv_ltF, iv_leT, iv_leF, iv_eqT, iv_eqF, iv_div, iv_mod, ↓bnI_s, ↓bnV_s, ↓bnJ_s, ↓bnR_s, rt_e, rt_0, rt_bz, sv_s, sv_o, ur_s, ur_e, ur_o, bz_T, bz_F, nat_eqF, Nat.reduceAdd, ↓q_X_fault, ↓gR_8_5 F, ↓gI_424_9 F, ↓gI_424_10 F, ↓gd_8 F, il_0, il_1, il_4, il_5, il_9, il_10, il_26]), rfl, (by simp (disch := first | decide | omega | (simp (disch := first | decide | omega) only [sv_s, sv_o, ur_s, ur_e, ur_o]; omega)) only [↓reduceIte, iv_add, iv_sub, iv_mul, iv_neg, iv_ltT, iv_ltF, iv_leT, iv_leF, iv_eqT, iv_eqF, iv_div, iv_mod, ↓bnI_s, ↓bnV_s, ↓bnJ_s, ↓bnR_s, rt_e, rt_0, rt_bz, sv_s, sv_o, ur_s, ur_e, ur_o, bz_T, bz_F, nat_eqF, Nat.reduceAdd, ↓q_M_fault, ↓gI_435_5 F, ↓gI_435_6 F, ↓gd_435 F, il_0, il_1, il_5, il_6, il_11, il_27]), rfl⟩
theorem p_about (F : Fix z) (g : GI TX I0 V z) {n : Int} (hn : (-2147483648 ≤ n ∧ n < 2147483648)) : Pq V J z (fun h => cA m_X_about [.ref 8, .int (iv n)] h) (fun h => cA m_M_about [.ref 435, .int (iv n)] h) := by
  obtain ⟨c1, c2, c3, c4, c5, c6, c7, c8, d1, d2, d3, d4, d5⟩ := g.1
  have k0 : V 10 5 = V 436 0 := c1.1
  have k4 : V 21 2 = V 436 4 := c6.1
  have k5 : V 24 2 = V 436 5 := c7.1
  have k6 : V 27 2 = V 436 6 := c8.1
  by_cases h : 0 ≤ n ∧ n ≤ 6
  · rcases (show n = 0 ∨ n = 1 ∨ n = 2 ∨ n = 3 ∨ n = 4 ∨ n = 5 ∨ n = 6 by omega) with rfl | rfl | rfl | rfl | rfl | rfl | rfl
    · exact ⟨V 436 0, V, J, V, J, (by simp (disch := first | decide | omega | (simp (disch := first | decide | omega) only [sv_s, sv_o, ur_s, ur_e, ur_o]; omega)) only [↓reduceIte, iv_add, iv_sub, iv_mul, iv_neg, iv_ltT, iv_ltF, iv_leT, iv_leF, iv_eqT, iv_eqF, iv_div, iv_mod, ↓bnI_s, ↓bnV_s, ↓bnJ_s, ↓bnR_s, rt_e, rt_0, rt_bz, sv_s, sv_o, ur_s, ur_e, ur_o, bz_T, bz_F, nat_eqF, Nat.reduceAdd, ↓q_X_about, ↓gR_8_0 F, ↓gR_9_0 F, ↓gI_10_5 F, ↓gI_9_11 F, ↓gI_9_12 F, ↓gI_9_10 F, ↓gR_9_6 F, ↓gI_21_2 F, ↓gI_24_2 F, ↓gI_27_2 F, ↓gR_9_7 F, ↓gR_9_8 F, ↓gR_8_4 F, ↓gI_419_1 F, ↓gd_8 F, il_0, il_1, il_2, il_3, il_4, il_5, il_6, il_7, il_8, il_10, il_11, il_12, il_26, k0]), rfl, (by simp (disch := first | decide | omega | (simp (disch := first | decide | omega) only [sv_s, sv_o, ur_s, ur_e, ur_o]; omega)) only [↓reduceIte, iv_add, iv_sub, iv_mul, iv_neg, iv_ltT, iv_ltF, iv_leT, iv_leF, iv_eqT, iv_eqF, iv_div, iv_mod, ↓bnI_s, ↓bnV_s, ↓bnJ_s, ↓bnR_s, rt_e, rt_0, rt_bz, sv_s, sv_o, ur_s, ur_e, ur_o, bz_T, bz_F, nat_eqF, Nat.reduceAdd, ↓q_M_about, ↓gI_435_4 F, ↓gR_435_0 F, ↓lI_436 F, ↓lI_437 F, ↓lI_438 F, ↓lI_439 F, ↓lI_440 F, ↓lI_441 F, ↓lI_443 F, ↓lI_444 F, ↓lI_445 F, ↓lI_446 F, ↓lI_447 F, ↓lI_448 F, ↓lI_449 F, ↓lI_450 F, ↓gd_435 F, il_0, il_1, il_2, il_4, il_6, il_7, il_11, il_27, y_isIn]), rfl⟩
    · exact ⟨V 436 1, V, J, V, J, (by simp (disch := first | decide | omega | (simp (disch := first | decide | omega) only [sv_s, sv_o, ur_s, ur_e, ur_o]; omega)) only [↓reduceIte, iv_add, iv_sub, iv_mul, iv_neg, iv_ltT, iv_ltF, iv_leT, iv_leF, iv_eqT, iv_eqF, iv_div, iv_mod, ↓bnI_s, ↓bnV_s, ↓bnJ_s, ↓bnR_s, rt_e, rt_0, rt_bz, sv_s, sv_o, ur_s, ur_e, ur_o, bz_T, bz_F, nat_eqF, Nat.reduceAdd, ↓q_X_about, ↓gR_8_0 F, ↓gR_9_0 F, ↓gI_10_5 F, ↓gI_9_11 F, ↓gI_9_12 F, ↓gI_9_10 F, ↓gR_9_6 F, ↓gI_21_2 F, ↓gI_24_2 F, ↓gI_27_2 F, ↓gR_9_7 F, ↓gR_9_8 F, ↓gR_8_4 F, ↓gI_419_1 F, ↓gd_8 F, il_0, il_1, il_2, il_3, il_4, il_5, il_6, il_7, il_8, il_10, il_11, il_12, il_26, d1]), rfl, (by simp (disch := first | decide | omega | (simp (disch := first | decide | omega) only [sv_s, sv_o, ur_s, ur_e, ur_o]; omega)) only [↓reduceIte, iv_add, iv_sub, iv_mul, iv_neg, iv_ltT, iv_ltF, iv_leT, iv_leF, iv_eqT, iv_eqF, iv_div, iv_mod, ↓bnI_s, ↓bnV_s, ↓bnJ_s, ↓bnR_s, rt_e, rt_0, rt_bz, sv_s, sv_o, ur_s, ur_e, ur_o, bz_T, bz_F, nat_eqF, Nat.reduceAdd, ↓q_M_about, ↓gI_435_4 F, ↓gR_435_0 F, ↓lI_436 F, ↓lI_437 F, ↓lI_438 F, ↓lI_439 F, ↓lI_440 F, ↓lI_441 F, ↓lI_443 F, ↓lI_444 F, ↓lI_445 F, ↓lI_446 F, ↓lI_447 F, ↓lI_448 F, ↓lI_449 F, ↓lI_450 F, ↓gd_435 F, il_0, il_1, il_2, il_4, il_6, il_7, il_11, il_27, y_isIn]), rfl⟩
    · exact ⟨V 436 2, V, J, V, J, (by simp (disch := first | decide | omega | (simp (disch := first | decide | omega) only [sv_s, sv_o, ur_s, ur_e, ur_o]; omega)) only [↓reduceIte, iv_add, iv_sub, iv_mul, iv_neg, iv_ltT, iv_ltF, iv_leT, iv_leF, iv_eqT, iv_eqF, iv_div, iv_mod, ↓bnI_s, ↓bnV_s, ↓bnJ_s, ↓bnR_s, rt_e, rt_0, rt_bz, sv_s, sv_o, ur_s, ur_e, ur_o, bz_T, bz_F, nat_eqF, Nat.reduceAdd, ↓q_X_about, ↓gR_8_0 F, ↓gR_9_0 F, ↓gI_10_5 F, ↓gI_9_11 F, ↓gI_9_12 F, ↓gI_9_10 F, ↓gR_9_6 F, ↓gI_21_2 F, ↓gI_24_2 F, ↓gI_27_2 F, ↓gR_9_7 F, ↓gR_9_8 F, ↓gR_8_4 F, ↓gI_419_1 F, ↓gd_8 F, il_0, il_1, il_2, il_3, il_4, il_5, il_6, il_7, il_8, il_10, il_11, il_12, il_26, d3]), rfl, (by simp (disch := first | decide | omega | (simp (disch := first | decide | omega) only [sv_s, sv_o, ur_s, ur_e, ur_o]; omega)) only [↓reduceIte, iv_add, iv_sub, iv_mul, iv_neg, iv_ltT, iv_ltF, iv_leT, iv_leF, iv_eqT, iv_eqF, iv_div, iv_mod, ↓bnI_s, ↓bnV_s, ↓bnJ_s, ↓bnR_s, rt_e, rt_0, rt_bz, sv_s, sv_o, ur_s, ur_e, ur_o, bz_T, bz_F, nat_eqF, Nat.reduceAdd, ↓q_M_about, ↓gI_435_4 F, ↓gR_435_0 F, ↓lI_436 F, ↓lI_437 F, ↓lI_438 F, ↓lI_439 F, ↓lI_440 F, ↓lI_441 F, ↓lI_443 F, ↓lI_444 F, ↓lI_445 F, ↓lI_446 F, ↓lI_447 F, ↓lI_448 F, ↓lI_449 F, ↓lI_450 F, ↓gd_435 F, il_0, il_1, il_2, il_4, il_6, il_7, il_11, il_27, y_isIn]), rfl⟩
    · exact ⟨V 436 3, V, J, V, J, (by simp (disch := first | decide | omega | (simp (disch := first | decide | omega) only [sv_s, sv_o, ur_s, ur_e, ur_o]; omega)) only [↓reduceIte, iv_add, iv_sub, iv_mul, iv_neg, iv_ltT, iv_ltF, iv_leT, iv_leF, iv_eqT, iv_eqF, iv_div, iv_mod, ↓bnI_s, ↓bnV_s, ↓bnJ_s, ↓bnR_s, rt_e, rt_0, rt_bz, sv_s, sv_o, ur_s, ur_e, ur_o, bz_T, bz_F, nat_eqF, Nat.reduceAdd, ↓q_X_about, ↓gR_8_0 F, ↓gR_9_0 F, ↓gI_10_5 F, ↓gI_9_11 F, ↓gI_9_12 F, ↓gI_9_10 F, ↓gR_9_6 F, ↓gI_21_2 F, ↓gI_24_2 F, ↓gI_27_2 F, ↓gR_9_7 F, ↓gR_9_8 F, ↓gR_8_4 F, ↓gI_419_1 F, ↓gd_8 F, il_0, il_1, il_2, il_3, il_4, il_5, il_6, il_7, il_8, il_10, il_11, il_12, il_26, c2.1]), rfl, (by simp (disch := first | decide | omega | (simp (disch := first | decide | omega) only [sv_s, sv_o, ur_s, ur_e, ur_o]; omega)) only [↓reduceIte, iv_add, iv_sub, iv_mul, iv_neg, iv_ltT, iv_ltF, iv_leT, iv_leF, iv_eqT, iv_eqF, iv_div, iv_mod, ↓bnI_s, ↓bnV_s, ↓bnJ_s, ↓bnR_s, rt_e, rt_0, rt_bz, sv_s, sv_o, ur_s, ur_e, ur_o, bz_T, bz_F, nat_eqF, Nat.reduceAdd, ↓q_M_about, ↓gI_435_4 F, ↓gR_435_0 F, ↓lI_436 F, ↓lI_437 F, ↓lI_438 F, ↓lI_439 F, ↓lI_440 F, ↓lI_441 F, ↓lI_443 F, ↓lI_444 F, ↓lI_445 F, ↓lI_446 F, ↓lI_447 F, ↓lI_448 F, ↓lI_449 F, ↓lI_450 F, ↓gd_435 F, il_0, il_1, il_2, il_4, il_6, il_7, il_11, il_27, y_isIn]), rfl⟩
    · exact ⟨V 436 4, V, J, V, J, (by simp (disch := first | decide | omega | (simp (disch := first | decide | omega) only [sv_s, sv_o, ur_s, ur_e, ur_o]; omega)) only [↓reduceIte, iv_add, iv_sub, iv_mul, iv_neg, iv_ltT, iv_ltF, iv_leT, iv_leF, iv_eqT, iv_eqF, iv_div, iv_mod, ↓bnI_s, ↓bnV_s, ↓bnJ_s, ↓bnR_s, rt_e, rt_0, rt_bz, sv_s, sv_o, ur_s, ur_e, ur_o, bz_T, bz_F, nat_eqF, Nat.reduceAdd, ↓q_X_about, ↓gR_8_0 F, ↓gR_9_0 F, ↓gI_10_5 F, ↓gI_9_11 F, ↓gI_9_12 F, ↓gI_9_10 F, ↓gR_9_6 F, ↓gI_21_2 F, ↓gI_24_2 F, ↓gI_27_2 F, ↓gR_9_7 F, ↓gR_9_8 F, ↓gR_8_4 F, ↓gI_419_1 F, ↓gd_8 F, il_0, il_1, il_2, il_3, il_4, il_5, il_6, il_7, il_8, il_10, il_11, il_12, il_26, k4]), rfl, (by simp (disch := first | decide | omega | (simp (disch := first | decide | omega) only [sv_s, sv_o, ur_s, ur_e, ur_o]; omega)) only [↓reduceIte, iv_add, iv_sub, iv_mul, iv_neg, iv_ltT, iv_ltF, iv_leT, iv_leF, iv_eqT, iv_eqF, iv_div, iv_mod, ↓bnI_s, ↓bnV_s, ↓bnJ_s, ↓bnR_s, rt_e, rt_0, rt_bz, sv_s, sv_o, ur_s, ur_e, ur_o, bz_T, bz_F, nat_eqF, Nat.reduceAdd, ↓q_M_about, ↓gI_435_4 F, ↓gR_435_0 F, ↓lI_436 F, ↓lI_437 F, ↓lI_438 F, ↓lI_439 F, ↓lI_440 F, ↓lI_441 F, ↓lI_443 F, ↓lI_444 F, ↓lI_445 F, ↓lI_446 F, ↓lI_447 F, ↓lI_448 F, ↓lI_449 F, ↓lI_450 F, ↓gd_435 F, il_0, il_1, il_2, il_4, il_6, il_7, il_11, il_27, y_isIn]), rfl⟩
    · exact ⟨V 436 5, V, J, V, J, (by simp (disch := first | decide | omega | (simp (disch := first | decide | omega) only [sv_s, sv_o, ur_s, ur_e, ur_o]; omega)) only [↓reduceIte, iv_add, iv_sub, iv_mul, iv_neg, iv_ltT, iv_ltF, iv_leT, iv_leF, iv_eqT, iv_eqF, iv_div, iv_mod, ↓bnI_s, ↓bnV_s, ↓bnJ_s, ↓bnR_s, rt_e, rt_0, rt_bz, sv_s, sv_o, ur_s, ur_e, ur_o, bz_T, bz_F, nat_eqF, Nat.reduceAdd, ↓q_X_about, ↓gR_8_0 F, ↓gR_9_0 F, ↓gI_10_5 F, ↓gI_9_11 F, ↓gI_9_12 F, ↓gI_9_10 F, ↓gR_9_6 F, ↓gI_21_2 F, ↓gI_24_2 F, ↓gI_27_2 F, ↓gR_9_7 F, ↓gR_9_8 F, ↓gR_8_4 F, ↓gI_419_1 F, ↓gd_8 F, il_0, il_1, il_2, il_3, il_4, il_5, il_6, il_7, il_8, il_10, il_11, il_12, il_26, k5]), rfl, (by simp (disch := first | decide | omega | (simp (disch := first | decide | omega) only [sv_s, sv_o, ur_s, ur_e, ur_o]; omega)) only [↓reduceIte, iv_add, iv_sub, iv_mul, iv_neg, iv_ltT, iv_ltF, iv_leT, iv_leF, iv_eqT, iv_eqF, iv_div, iv_mod, ↓bnI_s, ↓bnV_s, ↓bnJ_s, ↓bnR_s, rt_e, rt_0, rt_bz, sv_s, sv_o, ur_s, ur_e, ur_o, bz_T, bz_F, nat_eqF, Nat.reduceAdd, ↓q_M_about, ↓gI_435_4 F, ↓gR_435_0 F, ↓lI_436 F, ↓lI_437 F, ↓lI_438 F, ↓lI_439 F, ↓lI_440 F, ↓lI_441 F, ↓lI_443 F, ↓lI_444 F, ↓lI_445 F, ↓lI_446 F, ↓lI_447 F, ↓lI_448 F, ↓lI_449 F, ↓lI_450 F, ↓gd_435 F, il_0, il_1, il_2, il_4, il_6, il_7, il_11, il_27, y_isIn]), rfl⟩
    · exact ⟨V 436 6, V, J, V, J, (by simp (disch := first | decide | omega | (simp (disch := first | decide | omega) only [sv_s, sv_o, ur_s, ur_e, ur_o]; omega)) only [↓reduceIte, iv_add, iv_sub, iv_mul, iv_neg, iv_ltT, iv_ltF, iv_leT, iv_leF, iv_eqT, iv_eqF, iv_div, iv_mod, ↓bnI_s, ↓bnV_s, ↓bnJ_s, ↓bnR_s, rt_e, rt_0, rt_bz, sv_s, sv_o, ur_s, ur_e, ur_o, bz_T, bz_F, nat_eqF, Nat.reduceAdd, ↓q_X_about, ↓gR_8_0 F, ↓gR_9_0 F, ↓gI_10_5 F, ↓gI_9_11 F, ↓gI_9_12 F, ↓gI_9_10 F, ↓gR_9_6 F, ↓gI_21_2 F, ↓gI_24_2 F, ↓gI_27_2 F, ↓gR_9_7 F, ↓gR_9_8 F, ↓gR_8_4 F, ↓gI_419_1 F, ↓gd_8 F, il_0, il_1, il_2, il_3, il_4, il_5, il_6, il_7, il_8, il_10, il_11, il_12, il_26, k6]), rfl, (by simp (disch := first | decide | omega | (simp (disch := first | decide | omega) only [sv_s, sv_o, ur_s, ur_e, ur_o]; omega)) only [↓reduceIte, iv_add, iv_sub, iv_mul, iv_neg, iv_ltT, iv_ltF, iv_leT, iv_leF, iv_eqT, iv_eqF, iv_div, iv_mod, ↓bnI_s, ↓bnV_s, ↓bnJ_s, ↓bnR_s, rt_e, rt_0, rt_bz, sv_s, sv_o, ur_s, ur_e, ur_o, bz_T, bz_F, nat_eqF, Nat.reduceAdd, ↓q_M_about, ↓gI_435_4 F, ↓gR_435_0 F, ↓lI_436 F, ↓lI_437 F, ↓lI_438 F, ↓lI_439 F, ↓lI_440 F, ↓lI_441 F, ↓lI_443 F, ↓lI_444 F, ↓lI_445 F, ↓lI_446 F, ↓lI_447 F, ↓lI_448 F, ↓lI_449 F, ↓lI_450 F, ↓gd_435 F, il_0, il_1, il_2, il_4, il_6, il_7, il_11, il_27, y_isIn]), rfl⟩
  · by_cases h7 : n = 7
    · subst h7
      exact ⟨V 435 4, V, J, V, J, (by simp (disch := first | decide | omega | (simp (disch := first | decide | omega) only [sv_s, sv_o, ur_s, ur_e, ur_o]; omega)) only [↓reduceIte, iv_add, iv_sub, iv_mul, iv_neg, iv_ltT, iv_ltF, iv_leT, iv_leF, iv_eqT, iv_eqF, iv_div, iv_mod, ↓bnI_s, ↓bnV_s, ↓bnJ_s, ↓bnR_s, rt_e, rt_0, rt_bz, sv_s, sv_o, ur_s, ur_e, ur_o, bz_T, bz_F, nat_eqF, Nat.reduceAdd, ↓q_X_about, ↓gR_8_0 F, ↓gR_9_0 F, ↓gI_10_5 F, ↓gI_9_11 F, ↓gI_9_12 F, ↓gI_9_10 F, ↓gR_9_6 F, ↓gI_21_2 F, ↓gI_24_2 F, ↓gI_27_2 F, ↓gR_9_7 F, ↓gR_9_8 F, ↓gR_8_4 F, ↓gI_419_1 F, ↓gd_8 F, il_0, il_1, il_2, il_3, il_4, il_5, il_6, il_7, il_8, il_10, il_11, il_12, il_26, g.2.2.2.1.1]), rfl, (by simp (disch := first | decide | omega | (simp (disch := first | decide | omega) only [sv_s, sv_o, ur_s, ur_e, ur_o]; omega)) only [↓reduceIte, iv_add, iv_sub, iv_mul, iv_neg, iv_ltT, iv_ltF, iv_leT, iv_leF, iv_eqT, iv_eqF, iv_div, iv_mod, ↓bnI_s, ↓bnV_s, ↓bnJ_s, ↓bnR_s, rt_e, rt_0, rt_bz, sv_s, sv_o, ur_s, ur_e, ur_o, bz_T, bz_F, nat_eqF, Nat.reduceAdd, ↓q_M_about, ↓gI_435_4 F, ↓gR_435_0 F, ↓lI_436 F, ↓lI_437 F, ↓lI_438 F, ↓lI_439 F, ↓lI_440 F, ↓lI_441 F, ↓lI_443 F, ↓lI_444 F, ↓lI_445 F, ↓lI_446 F, ↓lI_447 F, ↓lI_448 F, ↓lI_449 F, ↓lI_450 F, ↓gd_435 F, il_0, il_1, il_2, il_4, il_6, il_7, il_11, il_27, y_isIn]), rfl⟩
    · exact ⟨-2, V, J, V, J, (by simp (disch := first | decide | omega | (simp (disch := first | decide | omega) only [sv_s, sv_o, ur_s, ur_e, ur_o]; omega)) only [↓reduceIte, iv_add, iv_sub, iv_mul, iv_neg, iv_ltT, iv_ltF, iv_leT, iv_leF, iv_eqT, iv_eqF, iv_div, iv_mod, ↓bnI_s, ↓bnV_s, ↓bnJ_s, ↓bnR_s, rt_e, rt_0, rt_bz, sv_s, sv_o, ur_s, ur_e, ur_o, bz_T, bz_F, nat_eqF, Nat.reduceAdd, ↓q_X_about, ↓gR_8_0 F, ↓gR_9_0 F, ↓gI_10_5 F, ↓gI_9_11 F, ↓gI_9_12 F, ↓gI_9_10 F, ↓gR_9_6 F, ↓gI_21_2 F, ↓gI_24_2 F, ↓gI_27_2 F, ↓gR_9_7 F, ↓gR_9_8 F, ↓gR_8_4 F, ↓gI_419_1 F, ↓gd_8 F, il_0, il_1, il_2, il_3, il_4, il_5, il_6, il_7, il_8, il_10, il_11, il_12, il_26]), rfl, (by simp (disch := first | decide | omega | (simp (disch := first | decide | omega) only [sv_s, sv_o, ur_s, ur_e, ur_o]; omega)) only [↓reduceIte, iv_add, iv_sub, iv_mul, iv_neg, iv_ltT, iv_ltF, iv_leT, iv_leF, iv_eqT, iv_eqF, iv_div, iv_mod, ↓bnI_s, ↓bnV_s, ↓bnJ_s, ↓bnR_s, rt_e, rt_0, rt_bz, sv_s, sv_o, ur_s, ur_e, ur_o, bz_T, bz_F, nat_eqF, Nat.reduceAdd, ↓q_M_about, ↓gI_435_4 F, ↓gR_435_0 F, ↓lI_436 F, ↓lI_437 F, ↓lI_438 F, ↓lI_439 F, ↓lI_440 F, ↓lI_441 F, ↓lI_443 F, ↓lI_444 F, ↓lI_445 F, ↓lI_446 F, ↓lI_447 F, ↓lI_448 F, ↓lI_449 F, ↓lI_450 F, ↓gd_435 F, il_0, il_1, il_2, il_4, il_6, il_7, il_11, il_27, y_isIn]), rfl⟩
end
/-! twenty bytes -/
def byt (x k : Int) : Int := ((iv x >>> (iv k &&& iv 31)) &&& iv 255).toInt
theorem byt_iv (x k : Int) : (iv x >>> (iv k &&& iv 31)) &&& iv 255 = iv (byt x k) := (iv_of _).symm
theorem byt_rg (x k : Int) : 0 ≤ byt x k ∧ byt x k < 256 := by
  obtain ⟨j, h1, h2⟩ := pk_andE (iv x >>> (iv k &&& iv 31)) (m := iv 255) 8 (by decide)
  unfold byt
  rw [h2, ← iv_nat, iv_toInt (by omega)]
  omega
/-- bytes put behind one another: the row a, its length at place k of b -/
def p1 (a b : Nat) (k : Int) (V : Vm) (y : Int) : Vm := sv (sv V a (V b k) y) b k (V b k + 1)
def pl (a b : Nat) (k : Int) (V : Vm) (L : List Int) : Vm := L.foldl (p1 a b k) V
section
variable {a b : Nat} {k : Int}
theorem p1_b (h : b ≠ a) (V : Vm) (y : Int) : p1 a b k V y b = ur (V b) k (V b k + 1) := by unfold p1; rw [sv_s, sv_o h]
theorem p1_a (h : b ≠ a) (V : Vm) (y : Int) : p1 a b k V y a = ur (V a) (V b k) y := by unfold p1; rw [sv_o (Ne.symm h), sv_s]
theorem p1_o (V : Vm) (y : Int) {c : Nat} (h1 : c ≠ a) (h2 : c ≠ b) : p1 a b k V y c = V c := by unfold p1; rw [sv_o h2, sv_o h1]
theorem pl_spec (h : b ≠ a) : ∀ (L : List Int) (V : Vm), pl a b k V L b k = V b k + L.length ∧ (∀ j, j ≠ k → pl a b k V L b j = V b j) ∧ (∀ c, c ≠ a → c ≠ b → pl a b k V L c = V c) ∧ (∀ i : Int, (i < V b k ∨ V b k + L.length ≤ i) → pl a b k V L a i = V a i) ∧ (∀ i : Nat, i < L.length → pl a b k V L a (V b k + i) = L.getD i 0) := by
  intro L
  induction L with
  | nil => exact fun V => ⟨(Int.add_zero _).symm, fun _ _ => rfl, fun _ _ _ => rfl, fun _ _ => rfl, fun i hi => absurd hi (Nat.not_lt_zero i)⟩
  | cons y L ih =>
    intro V
    obtain ⟨i1, i2, i3, i4, i5⟩ := ih (p1 a b k V y)
    have e : p1 a b k V y b k = V b k + 1 := by rw [p1_b h, ur_s]
    have len : ((y :: L).length : Int) = L.length + 1 := rfl
    show pl a b k (p1 a b k V y) L b k = _ ∧ (∀ j, j ≠ k → pl a b k (p1 a b k V y) L b j = V b j) ∧ (∀ c, c ≠ a → c ≠ b → pl a b k (p1 a b k V y) L c = V c) ∧ (∀ i : Int, (i < V b k ∨ V b k + ((y :: L).length : Int) ≤ i) → pl a b k (p1 a b k V y) L a i = V a i) ∧ (∀ i : Nat, i < (y :: L).length → pl a b k (p1 a b k V y) L a (V b k + i) = (y :: L).getD i 0)
    rw [e] at i1 i4 i5
    refine ⟨by rw [i1, len]; omega, fun j hj => by rw [i2 j hj, p1_b h, ur_o hj], fun c h1 h2 => by rw [i3 c h1 h2, p1_o V y h1 h2], fun i hi => ?_, fun i hi => ?_⟩
    · rw [i4 i (by omega), p1_a h, ur_o (by omega)]
    · cases i with
      | zero =>
        rw [i4 _ (Or.inl (by omega)), p1_a h, ur_e (by omega)]
        rfl
      | succ i =>
        have := i5 i (Nat.lt_of_succ_lt_succ hi)
        rw [show V b k + ((i + 1 : Nat) : Int) = V b k + 1 + i by omega, this]
        rfl
theorem pl_app (V : Vm) (L M : List Int) : pl a b k (pl a b k V L) M = pl a b k V (L ++ M) := by unfold pl; rw [List.foldl_append]
end
def b4 (x : Int) : List Int := [byt x 24, byt x 16, byt x 8, byt x 0]
section
variable {TX : Vm → Zz → Nat → Int → Prop} {I0 : Nat → Nat → Int32} {V J : Vm} {z : Zz}
theorem y_addFour_s (F : Fix z) {x k : Int} (hk : 0 ≤ k ∧ k ≤ 24) (hn : 0 ≤ V 419 1 ∧ V 419 1 < 300) : rX m_Tape_addFour m_Tape_addFour 3 [.ref 419, .int (iv x), .int (iv k)] [] (em V J z) = rX m_Tape_addFour m_Tape_addFour 3 [.ref 419, .int (iv x), .int (iv (k + -8))] [] (em (p1 420 419 1 V (byt x k)) J z) := by
  unfold p1
  (rw [q_Tape_addFour_3]; simp (disch := first | decide | omega | (simp (disch := first | decide | omega) only [sv_s, sv_o, ur_s, ur_e, ur_o]; omega)) only [↓reduceIte, iv_add, iv_sub, iv_mul, iv_neg, iv_ltT, iv_ltF, iv_leT, iv_leF, iv_eqT, iv_eqF, iv_div, iv_mod, ↓bnI_s, ↓bnV_s, ↓bnJ_s, ↓bnR_s, rt_e, rt_0, rt_bz, sv_s, sv_o, ur_s, ur_e, ur_o, bz_T, bz_F, nat_eqF, Nat.reduceAdd, ↓gR_419_0 F, ↓gI_419_1 F, ↓pI_419_1 F, il_0, il_1, il_3, il_8, il_31, il_255, byt_iv, y_put (s_420 F) (by decide), pt_in])
theorem y_addFour (F : Fix z) {x : Int} (hn : 0 ≤ V 419 1 ∧ V 419 1 ≤ 296) : cA m_Tape_addFour [.ref 419, .int (iv x)] (em V J z) = some (.null, em (pl 420 419 1 V (b4 x)) J z) := by
  have n1 : ∀ (V : Vm) y, p1 420 419 1 V y 419 1 = V 419 1 + 1 := fun V y => by rw [p1_b (by decide), ur_s]
  rw [q_Tape_addFour, gd_419 F, il_24, y_addFour_s F (by omega) (by omega), y_addFour_s F (by omega) (by rw [n1]; omega), y_addFour_s F (by omega) (by rw [n1, n1]; omega), y_addFour_s F (by omega) (by rw [n1, n1, n1]; omega)]
  (rw [q_Tape_addFour_3]; simp (disch := first | decide | omega | (simp (disch := first | decide | omega) only [sv_s, sv_o, ur_s, ur_e, ur_o]; omega)) only [↓reduceIte, iv_add, iv_sub, iv_mul, iv_neg, iv_ltT, iv_ltF, iv_leT, iv_leF, iv_eqT, iv_eqF, iv_div, iv_mod, ↓bnI_s, ↓bnV_s, ↓bnJ_s, ↓bnR_s, rt_e, rt_0, rt_bz, sv_s, sv_o, ur_s, ur_e, ur_o, bz_T, bz_F, nat_eqF, Nat.reduceAdd, ↓gR_419_0 F, ↓gI_419_1 F, ↓pI_419_1 F, il_0, il_1, il_3, il_8, il_31, il_255])
  rfl
theorem y_four_s (F : Fix z) {x k : Int} (hk : 0 ≤ k ∧ k ≤ 24) (hn : 0 ≤ V 435 4 ∧ V 435 4 < 300) : rX m_M_four m_M_four 3 [.ref 435, .int (iv x), .int (iv k)] [] (em V J z) = rX m_M_four m_M_four 3 [.ref 435, .int (iv x), .int (iv (k + -8))] [] (em (p1 439 435 4 V (byt x k)) J z) := by
  unfold p1
  (rw [q_M_four_3]; simp (disch := first | decide | omega | (simp (disch := first | decide | omega) only [sv_s, sv_o, ur_s, ur_e, ur_o]; omega)) only [↓reduceIte, iv_add, iv_sub, iv_mul, iv_neg, iv_ltT, iv_ltF, iv_leT, iv_leF, iv_eqT, iv_eqF, iv_div, iv_mod, ↓bnI_s, ↓bnV_s, ↓bnJ_s, ↓bnR_s, rt_e, rt_0, rt_bz, sv_s, sv_o, ur_s, ur_e, ur_o, bz_T, bz_F, nat_eqF, Nat.reduceAdd, ↓gR_435_3 F, ↓gI_435_4 F, ↓pI_435_4 F, ↓sI_436 F, ↓sI_437 F, ↓sI_438 F, ↓sI_439 F, ↓sI_440 F, ↓sI_441 F, ↓sI_443 F, ↓sI_444 F, ↓sI_445 F, ↓sI_446 F, ↓sI_447 F, ↓sI_448 F, ↓sI_449 F, ↓sI_450 F, il_0, il_1, il_3, il_4, il_8, il_11, il_31, il_255, byt_iv])
theorem y_four (F : Fix z) {x : Int} (hn : 0 ≤ V 435 4 ∧ V 435 4 ≤ 296) : cA m_M_four [.ref 435, .int (iv x)] (em V J z) = some (.null, em (pl 439 435 4 V (b4 x)) J z) := by
  have n1 : ∀ (V : Vm) y, p1 439 435 4 V y 435 4 = V 435 4 + 1 := fun V y => by rw [p1_b (by decide), ur_s]
  rw [q_M_four, gd_435 F, il_24, y_four_s F (by omega) (by omega), y_four_s F (by omega) (by rw [n1]; omega), y_four_s F (by omega) (by rw [n1, n1]; omega), y_four_s F (by omega) (by rw [n1, n1, n1]; omega)]
  (rw [q_M_four_3]; simp (disch := first | decide | omega | (simp (disch := first | decide | omega) only [sv_s, sv_o, ur_s, ur_e, ur_o]; omega)) only [↓reduceIte, iv_add, iv_sub, iv_mul, iv_neg, iv_ltT, iv_ltF, iv_leT, iv_leF, iv_eqT, iv_eqF, iv_div, iv_mod, ↓bnI_s, ↓bnV_s, ↓bnJ_s, ↓bnR_s, rt_e, rt_0, rt_bz, sv_s, sv_o, ur_s, ur_e, ur_o, bz_T, bz_F, nat_eqF, Nat.reduceAdd, ↓gR_435_3 F, ↓gI_435_4 F, ↓pI_435_4 F, ↓sI_436 F, ↓sI_437 F, ↓sI_438 F, ↓sI_439 F, ↓sI_440 F, ↓sI_441 F, ↓sI_443 F, ↓sI_444 F, ↓sI_445 F, ↓sI_446 F, ↓sI_447 F, ↓sI_448 F, ↓sI_449 F, ↓sI_450 F, il_0, il_1, il_3, il_4, il_8, il_11, il_31, il_255])
  rfl
theorem p_feed (F : Fix z) (T : TXok TX) (g : GI TX I0 V z) {x1 x2 x3 x4 x5 : Int} : Pc TX I0 V J z (fun h => cA m_X_feed [.ref 8, .int (iv x1), .int (iv x2), .int (iv x3), .int (iv x4), .int (iv x5)] h) (fun h => cA m_M_feed [.ref 435, .int (iv x1), .int (iv x2), .int (iv x3), .int (iv x4), .int (iv x5)] h) := by
  obtain ⟨t1, t2, t3⟩ := g.2.2.2.1
  by_cases h : V 435 4 ≤ 280
  · have bn : ∀ (V : Vm) x, pl 420 419 1 V (b4 x) 419 1 = V 419 1 + 4 := fun V x => (pl_spec (by decide) (b4 x) V).1
    have bm : ∀ (V : Vm) x, pl 439 435 4 V (b4 x) 435 4 = V 435 4 + 4 := fun V x => (pl_spec (by decide) (b4 x) V).1
    have app : ∀ (a b : Nat) (k : Int) (V : Vm), pl a b k (pl a b k (pl a b k (pl a b k (pl a b k V (b4 x1)) (b4 x2)) (b4 x3)) (b4 x4)) (b4 x5) = pl a b k V (b4 x1 ++ b4 x2 ++ b4 x3 ++ b4 x4 ++ b4 x5) := fun a b k V => by rw [pl_app, pl_app, pl_app, pl_app]; simp only [List.append_assoc]
    have s1 := pl_spec (a := 420) (b := 419) (k := 1) (by decide) (b4 x1 ++ b4 x2 ++ b4 x3 ++ b4 x4 ++ b4 x5) V
    have hb : ∀ i : Nat, i < 20 → 0 ≤ (b4 x1 ++ b4 x2 ++ b4 x3 ++ b4 x4 ++ b4 x5).getD i 0 ∧ (b4 x1 ++ b4 x2 ++ b4 x3 ++ b4 x4 ++ b4 x5).getD i 0 < 256 := by
      intro i hi
      rcases (show i = 0 ∨ i = 1 ∨ i = 2 ∨ i = 3 ∨ i = 4 ∨ i = 5 ∨ i = 6 ∨ i = 7 ∨ i = 8 ∨ i = 9 ∨ i = 10 ∨ i = 11 ∨ i = 12 ∨ i = 13 ∨ i = 14 ∨ i = 15 ∨ i = 16 ∨ i = 17 ∨ i = 18 ∨ i = 19 by omega) with rfl | rfl | rfl | rfl | rfl | rfl | rfl | rfl | rfl | rfl | rfl | rfl | rfl | rfl | rfl | rfl | rfl | rfl | rfl | rfl <;> exact byt_rg _ _
    have len : (b4 x1 ++ b4 x2 ++ b4 x3 ++ b4 x4 ++ b4 x5).length = 20 := rfl
    have eX : cA m_X_feed [.ref 8, .int (iv x1), .int (iv x2), .int (iv x3), .int (iv x4), .int (iv x5)] (em V J z) = some (.int (iv (V 435 4 + 20)), em (pl 420 419 1 V (b4 x1 ++ b4 x2 ++ b4 x3 ++ b4 x4 ++ b4 x5)) J z) := by
      rw [← app]
      have e5 : pl 420 419 1 (pl 420 419 1 (pl 420 419 1 (pl 420 419 1 (pl 420 419 1 V (b4 x1)) (b4 x2)) (b4 x3)) (b4 x4)) (b4 x5) 419 1 = V 435 4 + 20 := by rw [bn, bn, bn, bn, bn]; omega
      rw [q_X_feed, gd_8 F, gR_8_4 F, gI_419_1 F, il_280, if_neg (of_eq_false (iv_ltF (by omega))), gR_8_4 F, y_addFour F (by omega), bnV_s, gR_8_4 F, y_addFour F (by rw [bn]; omega), bnV_s, gR_8_4 F, y_addFour F (by rw [bn, bn]; omega), bnV_s, gR_8_4 F, y_addFour F (by rw [bn, bn, bn]; omega), bnV_s, gR_8_4 F, y_addFour F (by rw [bn, bn, bn, bn]; omega), bnV_s, gR_8_4 F, gI_419_1 F, e5]
    generalize hL : b4 x1 ++ b4 x2 ++ b4 x3 ++ b4 x4 ++ b4 x5 = L at s1 hb len eX
    have s2 := pl_spec (a := 439) (b := 435) (k := 4) (by decide) L (pl 420 419 1 V L)
    obtain ⟨s11, s12, s13, s14, s15⟩ := s1
    obtain ⟨s21, s22, s23, s24, s25⟩ := s2
    have v4 : pl 420 419 1 V L 435 4 = V 435 4 := by rw [s13 435 (by decide) (by decide)]
    rw [v4] at s21 s24 s25
    rw [len] at s11 s14 s15 s21 s24 s25
    have eM : cA m_M_feed [.ref 435, .int (iv x1), .int (iv x2), .int (iv x3), .int (iv x4), .int (iv x5)] (em (pl 420 419 1 V L) J z) = some (.int (iv (V 435 4 + 20)), em (pl 439 435 4 (pl 420 419 1 V L) L) J z) := by
      generalize pl 420 419 1 V L = W at v4 ⊢
      rw [← hL, ← app]
      have e5 : pl 439 435 4 (pl 439 435 4 (pl 439 435 4 (pl 439 435 4 (pl 439 435 4 W (b4 x1)) (b4 x2)) (b4 x3)) (b4 x4)) (b4 x5) 435 4 = V 435 4 + 20 := by rw [bm, bm, bm, bm, bm]; omega
      rw [q_M_feed, gd_435 F, gI_435_4 F, il_300, il_20, iv_add, if_neg (of_eq_false (iv_ltF (by omega))), y_four F (by omega), bnV_s, y_four F (by rw [bm]; omega), bnV_s, y_four F (by rw [bm, bm]; omega), bnV_s, y_four F (by rw [bm, bm, bm]; omega), bnV_s, y_four F (by rw [bm, bm, bm, bm]; omega), bnV_s, gI_435_4 F, e5]
    refine ⟨_, _, J, _, J, eX, eM, GI_tap T g (fun a k hs h1 h2 h3 h4 => ?_) ⟨?_, ?_, fun i i0 i1 => ?_⟩⟩
    · by_cases q : a = 435
      · subst q
        rw [s22 k (by omega), s13 435 (by decide) (by decide)]
      · rw [s23 a h4 q]
        by_cases q2 : a = 419
        · subst q2
          rw [s12 k (by omega)]
        · rw [s13 a h3 q2]
    · rw [s21, s23 419 (by decide) (by decide), s11]; omega
    · rw [s21]; omega
    · rw [s21] at i1
      rw [s23 420 (by decide) (by decide)]
      by_cases q : i < V 435 4
      · rw [s14 i (by omega), s24 i (by omega), s13 439 (by decide) (by decide)]
        exact t3 i i0 q
      · obtain ⟨j, hj⟩ := Int.eq_ofNat_of_zero_le (show 0 ≤ i - V 435 4 by omega)
        have ei : i = V 435 4 + j := by omega
        have a1 := s15 j (by omega)
        have a2 := s25 j (by omega)
        rw [t1] at a1
        rw [ei, a1, a2]
        exact ⟨rfl, hb j (by omega)⟩
  · exact Pq.pc T g ⟨-1, V, J, V, J, (by simp (disch := first | decide | omega | (simp (disch := first | decide | omega) only [sv_s, sv_o, ur_s, ur_e, ur_o]; omega)) only [↓reduceIte, iv_add, iv_sub, iv_mul, iv_neg, iv_ltT, iv_ltF, iv_leT, iv_leF, iv_eqT, iv_eqF, iv_div, iv_mod, ↓bnI_s, ↓bnV_s, ↓bnJ_s, ↓bnR_s, rt_e, rt_0, rt_bz, sv_s, sv_o, ur_s, ur_e, ur_o, bz_T, bz_F, nat_eqF, Nat.reduceAdd, ↓q_X_feed, ↓gR_8_4 F, ↓gI_419_1 F, ↓gd_8 F, il_0, il_1, il_4, il_8, il_10, il_26, il_280]), rfl, (by simp (disch := first | decide | omega | (simp (disch := first | decide | omega) only [sv_s, sv_o, ur_s, ur_e, ur_o]; omega)) only [↓reduceIte, iv_add, iv_sub, iv_mul, iv_neg, iv_ltT, iv_ltF, iv_leT, iv_leF, iv_eqT, iv_eqF, iv_div, iv_mod, ↓bnI_s, ↓bnV_s, ↓bnJ_s, ↓bnR_s, rt_e, rt_0, rt_bz, sv_s, sv_o, ur_s, ur_e, ur_o, bz_T, bz_F, nat_eqF, Nat.reduceAdd, ↓q_M_feed, ↓gI_435_4 F, ↓gd_435 F, il_0, il_1, il_4, il_11, il_20, il_27, il_300]), rfl⟩
end
