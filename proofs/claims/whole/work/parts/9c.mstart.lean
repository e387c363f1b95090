/-! THE READING, the model at the start of a ONE -/
theorem MT.n38 {U K : Vm} {b : Int → Int} {p k e v : Int} (T : MT U K b p k e v) (h : k = 38) : U 435 9 = 1 ∧ NR v (U 435 10) := by
  obtain ⟨_, _, t⟩ := T
  rcases t with ⟨h1, h2⟩ | ⟨h1, h2, h3⟩ | ⟨h1, h2, h3⟩ | h1
  · omega
  · exact ⟨h2, h3⟩
  · have := h2.rg; omega
  · unfold sgT at h1; omega
theorem nmO_rg (k : Int) : -1 ≤ nmO k ∧ nmO k ≤ 6 := by
  unfold nmO
  repeat' split
  all_goals omega
theorem nmO_no {k : Int} (h : k = 38 ∨ k = 33 ∨ k = 30 ∨ k = 16 ∨ k = 17 ∨ k = 18 ∨ k = 24) : nmO k = -1 := by
  rcases h with rfl | rfl | rfl | rfl | rfl | rfl | rfl <;> rfl
section
variable {U K : Vm} {z : Zz} {s : Sm} {b : Int → Int} {i p d w k e v : Int}
theorem y_big (F : Fix z) (T : MT U K b p k e v) (hk : k = 38) (hv : v = 10000) : cA m_M_beginOne [.ref 435] (em U K z) = some (.int (iv 2), em U K z) := by
  obtain ⟨t1, t2⟩ := T.n38 hk
  unfold NR at t2
  have h10 : 9999 < U 435 10 ∧ U 435 10 ≤ 999999 := by omega
  generalize hx : U 435 10 = x at *
  simp (disch := first | decide | omega | (simp (disch := first | decide | omega) only [sv_s, sv_o, ur_s, ur_e, ur_o]; omega)) only [↓reduceIte, iv_add, iv_sub, iv_mul, iv_neg, iv_ltT, iv_ltF, iv_leT, iv_leF, iv_eqT, iv_eqF, iv_div, iv_mod, ↓bnI_s, ↓bnV_s, ↓bnJ_s, ↓bnR_s, rt_e, rt_0, rt_bz, sv_s, sv_o, ur_s, ur_e, ur_o, bz_T, bz_F, nat_eqF, Nat.reduceAdd, ↓q_M_beginOne, ↓gI_435_9 F, ↓gI_435_10 F, ↓gd_435 F, il_0, il_1, il_2, il_9, il_10, il_11, il_20, il_27, il_9999, t1, hx]
theorem y_b20 (F : Fix z) (T : MT U K b p k e v) (h : ¬ (k = 38 ∧ v = 10000)) : cA m_M_beginOne [.ref 435] (em U K z) = rX m_M_beginOne m_M_beginOne 20 [.ref 435, dd] [] (em U K z) := by
  by_cases hk : k = 38
  · obtain ⟨t1, t2⟩ := T.n38 hk
    unfold NR at t2
    have h10 : 0 ≤ U 435 10 ∧ U 435 10 ≤ 9999 := by omega
    generalize hx : U 435 10 = x at *
    simp (disch := first | decide | omega | (simp (disch := first | decide | omega) only [sv_s, sv_o, ur_s, ur_e, ur_o]; omega)) only [↓reduceIte, iv_add, iv_sub, iv_mul, iv_neg, iv_ltT, iv_ltF, iv_leT, iv_leF, iv_eqT, iv_eqF, iv_div, iv_mod, ↓bnI_s, ↓bnV_s, ↓bnJ_s, ↓bnR_s, rt_e, rt_0, rt_bz, sv_s, sv_o, ur_s, ur_e, ur_o, bz_T, bz_F, nat_eqF, Nat.reduceAdd, ↓q_M_beginOne, ↓gI_435_9 F, ↓gI_435_10 F, ↓gd_435 F, il_0, il_1, il_2, il_9, il_10, il_11, il_20, il_27, il_9999, t1, hx]
  · have tt := T.tt
    have t1 : U 435 9 < 1 ∨ 1 < U 435 9 := by unfold Tt sgT at tt; omega
    have tr := tt.rg.2
    generalize hx : U 435 9 = x at *
    clear tt
    simp (disch := first | decide | omega | (simp (disch := first | decide | omega) only [sv_s, sv_o, ur_s, ur_e, ur_o]; omega)) only [↓reduceIte, iv_add, iv_sub, iv_mul, iv_neg, iv_ltT, iv_ltF, iv_leT, iv_leF, iv_eqT, iv_eqF, iv_div, iv_mod, ↓bnI_s, ↓bnV_s, ↓bnJ_s, ↓bnR_s, rt_e, rt_0, rt_bz, sv_s, sv_o, ur_s, ur_e, ur_o, bz_T, bz_F, nat_eqF, Nat.reduceAdd, ↓q_M_beginOne, ↓gI_435_9 F, ↓gI_435_10 F, ↓gd_435 F, il_0, il_1, il_2, il_9, il_10, il_11, il_20, il_27, il_9999, hx]
theorem y_b39 (F : Fix z) (T : MT U K b p k e v) (hs : U 435 14 = 0 ∨ U 435 14 = 1) : rX m_M_beginOne m_M_beginOne 20 [.ref 435, dd] [] (em U K z) = if (k = 14 ∧ U 435 14 = 1) ∨ (k = 15 ∧ U 435 14 = 0) then some (.int (iv 5), em U K z) else rX m_M_beginOne m_M_beginOne 39 [.ref 435, .int (iv (nmO k))] [] (em U K z) := by
  have nm := y_nameOf (z := z) F T
  have nr := nmO_rg k
  by_cases h0 : 0 ≤ nmO k
  · have io := y_isOf (U := U) (K := K) (z := z) F (x := nmO k) (by omega) (by omega)
    have k5 : nmO k = 5 ↔ k = 14 := by unfold nmO at *; (repeat' split) <;> omega
    have k6 : nmO k = 6 ↔ k = 15 := by unfold nmO at *; (repeat' split) <;> omega
    by_cases c : (k = 14 ∧ U 435 14 = 1) ∨ (k = 15 ∧ U 435 14 = 0)
    · rw [if_pos c]
      rw [bz_F (by omega)] at io
      generalize nmO k = x at *
      (rw [q_M_beginOne_20]; simp (disch := first | decide | omega | (simp (disch := first | decide | omega) only [sv_s, sv_o, ur_s, ur_e, ur_o]; omega)) only [↓reduceIte, iv_add, iv_sub, iv_mul, iv_neg, iv_ltT, iv_ltF, iv_leT, iv_leF, iv_eqT, iv_eqF, iv_div, iv_mod, ↓bnI_s, ↓bnV_s, ↓bnJ_s, ↓bnR_s, rt_e, rt_0, rt_bz, sv_s, sv_o, ur_s, ur_e, ur_o, bz_T, bz_F, nat_eqF, Nat.reduceAdd, il_0, il_1, il_5, il_20, il_39, nm, io])
    · rw [if_neg c]
      rw [bz_T (by omega)] at io
      generalize nmO k = x at *
      (rw [q_M_beginOne_20]; simp (disch := first | decide | omega | (simp (disch := first | decide | omega) only [sv_s, sv_o, ur_s, ur_e, ur_o]; omega)) only [↓reduceIte, iv_add, iv_sub, iv_mul, iv_neg, iv_ltT, iv_ltF, iv_leT, iv_leF, iv_eqT, iv_eqF, iv_div, iv_mod, ↓bnI_s, ↓bnV_s, ↓bnJ_s, ↓bnR_s, rt_e, rt_0, rt_bz, sv_s, sv_o, ur_s, ur_e, ur_o, bz_T, bz_F, nat_eqF, Nat.reduceAdd, il_0, il_1, il_5, il_20, il_39, nm, io])
  · have e1 : nmO k = -1 := by omega
    have k5 : ¬ (k = 14) := by intro x; rw [x] at e1; exact absurd e1 (by decide)
    have k6 : ¬ (k = 15) := by intro x; rw [x] at e1; exact absurd e1 (by decide)
    rw [if_neg (by omega)]
    rw [e1] at nm ⊢
    (rw [q_M_beginOne_20]; simp (disch := first | decide | omega | (simp (disch := first | decide | omega) only [sv_s, sv_o, ur_s, ur_e, ur_o]; omega)) only [↓reduceIte, iv_add, iv_sub, iv_mul, iv_neg, iv_ltT, iv_ltF, iv_leT, iv_leF, iv_eqT, iv_eqF, iv_div, iv_mod, ↓bnI_s, ↓bnV_s, ↓bnJ_s, ↓bnR_s, rt_e, rt_0, rt_bz, sv_s, sv_o, ur_s, ur_e, ur_o, bz_T, bz_F, nat_eqF, Nat.reduceAdd, il_0, il_1, il_5, il_20, il_39, nm])
/-- one that opens -/
theorem y_39o (F : Fix z) (T : MT U K b p k e v) {o : Int} (hk : (k = 33 ∧ o = 40) ∨ (k = 30 ∧ o = 5) ∨ (k = 16 ∧ o = 2) ∨ (k = 17 ∧ o = 4) ∨ (k = 18 ∧ o = 41)) : rX m_M_beginOne m_M_beginOne 39 [.ref 435, .int (iv (-1))] [] (em U K z) = bnI (cA m_M_opened [.ref 435, .int (iv o)] (em U K z)) fun w h => some (.int w, h) := by
  have tt := T.tt
  have w16 := y_isWord (z := z) F T (i := 16) (by decide) (by decide)
  have w17 := y_isWord (z := z) F T (i := 17) (by decide) (by decide)
  have w18 := y_isWord (z := z) F T (i := 18) (by decide) (by decide)
  have t5 : (k = 33 ∧ U 435 9 = 40) ∨ (k = 30 ∧ U 435 9 = 45) ∨ (k ≤ 18 ∧ U 435 9 = 2) := by unfold Tt sgT at tt; omega
  clear tt T
  rcases hk with ⟨rfl, rfl⟩ | ⟨rfl, rfl⟩ | ⟨rfl, rfl⟩ | ⟨rfl, rfl⟩ | ⟨rfl, rfl⟩
  · have t : U 435 9 = 40 := by omega
    (rw [q_M_beginOne_39]; simp (disch := first | decide | omega | (simp (disch := first | decide | omega) only [sv_s, sv_o, ur_s, ur_e, ur_o]; omega)) only [↓reduceIte, iv_add, iv_sub, iv_mul, iv_neg, iv_ltT, iv_ltF, iv_leT, iv_leF, iv_eqT, iv_eqF, iv_div, iv_mod, ↓bnI_s, ↓bnV_s, ↓bnJ_s, ↓bnR_s, rt_e, rt_0, rt_bz, sv_s, sv_o, ur_s, ur_e, ur_o, bz_T, bz_F, nat_eqF, Nat.reduceAdd, ↓gI_435_9 F, il_0, il_1, il_2, il_4, il_5, il_9, il_11, il_20, il_39, il_40, il_41, il_45, il_65, il_97, il_99, il_101, il_102, il_105, il_110, il_111, il_113, il_114, il_115, il_116, il_117, il_118, t])
  · have t : U 435 9 = 45 := by omega
    (rw [q_M_beginOne_39]; simp (disch := first | decide | omega | (simp (disch := first | decide | omega) only [sv_s, sv_o, ur_s, ur_e, ur_o]; omega)) only [↓reduceIte, iv_add, iv_sub, iv_mul, iv_neg, iv_ltT, iv_ltF, iv_leT, iv_leF, iv_eqT, iv_eqF, iv_div, iv_mod, ↓bnI_s, ↓bnV_s, ↓bnJ_s, ↓bnR_s, rt_e, rt_0, rt_bz, sv_s, sv_o, ur_s, ur_e, ur_o, bz_T, bz_F, nat_eqF, Nat.reduceAdd, ↓gI_435_9 F, il_0, il_1, il_2, il_4, il_5, il_9, il_11, il_20, il_39, il_40, il_41, il_45, il_65, il_97, il_99, il_101, il_102, il_105, il_110, il_111, il_113, il_114, il_115, il_116, il_117, il_118, t])
  · have t : U 435 9 = 2 := by omega
    rw [bz_T (by omega)] at w16
    (rw [q_M_beginOne_39]; simp (disch := first | decide | omega | (simp (disch := first | decide | omega) only [sv_s, sv_o, ur_s, ur_e, ur_o]; omega)) only [↓reduceIte, iv_add, iv_sub, iv_mul, iv_neg, iv_ltT, iv_ltF, iv_leT, iv_leF, iv_eqT, iv_eqF, iv_div, iv_mod, ↓bnI_s, ↓bnV_s, ↓bnJ_s, ↓bnR_s, rt_e, rt_0, rt_bz, sv_s, sv_o, ur_s, ur_e, ur_o, bz_T, bz_F, nat_eqF, Nat.reduceAdd, ↓gI_435_9 F, il_0, il_1, il_2, il_4, il_5, il_9, il_11, il_20, il_39, il_40, il_41, il_45, il_65, il_97, il_99, il_101, il_102, il_105, il_110, il_111, il_113, il_114, il_115, il_116, il_117, il_118, t, lw_16, w16])
  · have t : U 435 9 = 2 := by omega
    rw [bz_F (by omega)] at w16
    rw [bz_T (by omega)] at w17
    (rw [q_M_beginOne_39]; simp (disch := first | decide | omega | (simp (disch := first | decide | omega) only [sv_s, sv_o, ur_s, ur_e, ur_o]; omega)) only [↓reduceIte, iv_add, iv_sub, iv_mul, iv_neg, iv_ltT, iv_ltF, iv_leT, iv_leF, iv_eqT, iv_eqF, iv_div, iv_mod, ↓bnI_s, ↓bnV_s, ↓bnJ_s, ↓bnR_s, rt_e, rt_0, rt_bz, sv_s, sv_o, ur_s, ur_e, ur_o, bz_T, bz_F, nat_eqF, Nat.reduceAdd, ↓gI_435_9 F, il_0, il_1, il_2, il_4, il_5, il_9, il_11, il_20, il_39, il_40, il_41, il_45, il_65, il_97, il_99, il_101, il_102, il_105, il_110, il_111, il_113, il_114, il_115, il_116, il_117, il_118, t, lw_16, w16, lw_17, w17])
  · have t : U 435 9 = 2 := by omega
    rw [bz_F (by omega)] at w16
    rw [bz_F (by omega)] at w17
    rw [bz_T (by omega)] at w18
    (rw [q_M_beginOne_39]; simp (disch := first | decide | omega | (simp (disch := first | decide | omega) only [sv_s, sv_o, ur_s, ur_e, ur_o]; omega)) only [↓reduceIte, iv_add, iv_sub, iv_mul, iv_neg, iv_ltT, iv_ltF, iv_leT, iv_leF, iv_eqT, iv_eqF, iv_div, iv_mod, ↓bnI_s, ↓bnV_s, ↓bnJ_s, ↓bnR_s, rt_e, rt_0, rt_bz, sv_s, sv_o, ur_s, ur_e, ur_o, bz_T, bz_F, nat_eqF, Nat.reduceAdd, ↓gI_435_9 F, il_0, il_1, il_2, il_4, il_5, il_9, il_11, il_20, il_39, il_40, il_41, il_45, il_65, il_97, il_99, il_101, il_102, il_105, il_110, il_111, il_113, il_114, il_115, il_116, il_117, il_118, t, lw_16, w16, lw_17, w17, lw_18, w18])
theorem MT.nop (T : MT U K b p k e v) (h1 : k ≠ 38) (h2 : k ≠ 33) (h3 : k ≠ 30) : (U 435 9 < 1 ∨ 1 < U 435 9) ∧ (U 435 9 < 40 ∨ 40 < U 435 9) ∧ (U 435 9 < 45 ∨ 45 < U 435 9) ∧ 0 ≤ U 435 9 ∧ U 435 9 ≤ 62 := by
  have tt := T.tt
  unfold Tt sgT at tt
  omega
/-- none that can stand here -/
theorem y_39n (F : Fix z) (T : MT U K b p k e v) (hk : k ≠ 38 ∧ k ≠ 33 ∧ k ≠ 30 ∧ k ≠ 16 ∧ k ≠ 17 ∧ k ≠ 18) (ha : k = 24 → cA m_M_isAskAhead [.ref 435] (em U K z) = some (.int (iv 0), em U K z)) : rX m_M_beginOne m_M_beginOne 39 [.ref 435, .int (iv (-1))] [] (em U K z) = some (.int (iv 1), em U K z) := by
  obtain ⟨n1, n2, n3, n4, n5⟩ := T.nop hk.1 hk.2.1 hk.2.2.1
  have w16 := y_isWord (z := z) F T (i := 16) (by decide) (by decide)
  have w17 := y_isWord (z := z) F T (i := 17) (by decide) (by decide)
  have w18 := y_isWord (z := z) F T (i := 18) (by decide) (by decide)
  have w24 := y_isWord (z := z) F T (i := 24) (by decide) (by decide)
  rw [bz_F (by omega)] at w16 w17 w18
  generalize ht : U 435 9 = t at *
  by_cases h : k = 24
  · rw [bz_T (by omega)] at w24
    have a := ha h
    clear ha T
    (rw [q_M_beginOne_39]; simp (disch := first | decide | omega | (simp (disch := first | decide | omega) only [sv_s, sv_o, ur_s, ur_e, ur_o]; omega)) only [↓reduceIte, iv_add, iv_sub, iv_mul, iv_neg, iv_ltT, iv_ltF, iv_leT, iv_leF, iv_eqT, iv_eqF, iv_div, iv_mod, ↓bnI_s, ↓bnV_s, ↓bnJ_s, ↓bnR_s, rt_e, rt_0, rt_bz, sv_s, sv_o, ur_s, ur_e, ur_o, bz_T, bz_F, nat_eqF, Nat.reduceAdd, ↓gI_435_9 F, il_0, il_1, il_2, il_4, il_5, il_9, il_11, il_20, il_39, il_40, il_41, il_45, il_65, il_97, il_99, il_101, il_102, il_105, il_110, il_111, il_113, il_114, il_115, il_116, il_117, il_118, ht, lw_16, w16, lw_17, w17, lw_18, w18, lw_24, w24, a])
  · rw [bz_F (by omega)] at w24
    clear ha T
    (rw [q_M_beginOne_39]; simp (disch := first | decide | omega | (simp (disch := first | decide | omega) only [sv_s, sv_o, ur_s, ur_e, ur_o]; omega)) only [↓reduceIte, iv_add, iv_sub, iv_mul, iv_neg, iv_ltT, iv_ltF, iv_leT, iv_leF, iv_eqT, iv_eqF, iv_div, iv_mod, ↓bnI_s, ↓bnV_s, ↓bnJ_s, ↓bnR_s, rt_e, rt_0, rt_bz, sv_s, sv_o, ur_s, ur_e, ur_o, bz_T, bz_F, nat_eqF, Nat.reduceAdd, ↓gI_435_9 F, il_0, il_1, il_2, il_4, il_5, il_9, il_11, il_20, il_39, il_40, il_41, il_45, il_65, il_97, il_99, il_101, il_102, il_105, il_110, il_111, il_113, il_114, il_115, il_116, il_117, il_118, ht, lw_16, w16, lw_17, w17, lw_18, w18, lw_24, w24])
theorem y_39t (F : Fix z) (T : MT U K b p k e v) (hk : k = 24) (ha : cA m_M_isAskAhead [.ref 435] (em U K z) = some (.int (iv 1), em U K z)) : rX m_M_beginOne m_M_beginOne 39 [.ref 435, .int (iv (-1))] [] (em U K z) = bnI (cA m_M_opened [.ref 435, .int (iv 20)] (em U K z)) fun w h => some (.int w, h) := by
  obtain ⟨n1, n2, n3, n4, n5⟩ := T.nop (by omega) (by omega) (by omega)
  have w16 := y_isWord (z := z) F T (i := 16) (by decide) (by decide)
  have w17 := y_isWord (z := z) F T (i := 17) (by decide) (by decide)
  have w18 := y_isWord (z := z) F T (i := 18) (by decide) (by decide)
  have w24 := y_isWord (z := z) F T (i := 24) (by decide) (by decide)
  rw [bz_F (by omega)] at w16 w17 w18
  rw [bz_T (by omega)] at w24
  generalize ht : U 435 9 = t at *
  clear T
  (rw [q_M_beginOne_39]; simp (disch := first | decide | omega | (simp (disch := first | decide | omega) only [sv_s, sv_o, ur_s, ur_e, ur_o]; omega)) only [↓reduceIte, iv_add, iv_sub, iv_mul, iv_neg, iv_ltT, iv_ltF, iv_leT, iv_leF, iv_eqT, iv_eqF, iv_div, iv_mod, ↓bnI_s, ↓bnV_s, ↓bnJ_s, ↓bnR_s, rt_e, rt_0, rt_bz, sv_s, sv_o, ur_s, ur_e, ur_o, bz_T, bz_F, nat_eqF, Nat.reduceAdd, ↓gI_435_9 F, il_0, il_1, il_2, il_4, il_5, il_9, il_11, il_20, il_39, il_40, il_41, il_45, il_65, il_97, il_99, il_101, il_102, il_105, il_110, il_111, il_113, il_114, il_115, il_116, il_117, il_118, ht, lw_16, w16, lw_17, w17, lw_18, w18, lw_24, w24, ha])
/-- the number or name at hand, into the code -/
theorem l_text (F : Fix z) (S : SO s) (P : Ps U K s i p d w) (h18 : U 435 18 = 0) (hi : 0 ≤ i ∧ i < sM s) (hw : 0 ≤ w ∧ w ≤ 303) {o x : Int} (h : (sK s i = 38 ∧ sV s i ≤ 9999 ∧ o = 0 ∧ x = sV s i) ∨ (0 ≤ nmO (sK s i) ∧ ¬ (sK s i = 14 ∧ sL s = 1) ∧ ¬ (sK s i = 15 ∧ sL s = 0) ∧ o = 1 ∧ x = nmO (sK s i))) : ∃ U' K', Lp (em U K z) = S7 U' K' z ∧ Ps U' K' s (i + 1) p d (w + 1) ∧ U' 435 18 = 1 ∧ frQ s p w U U' ∧ U' 438 (sX s + 73 + 2 * w) = o ∧ U' 438 (sX s + 73 + 2 * w + 1) = x := by
  have T := P.1.2
  have p6 := P.2.2.2.2.2
  have sL01 := S.2.2.1
  rcases h with ⟨h1, h2, h3, h4⟩ | ⟨h1, h2, h3, h4, h5⟩
  · obtain ⟨t1, t2⟩ := T.n38 h1
    unfold NR at t2
    obtain ⟨U', K', e1, e2⟩ := l_65 F S P hi hw (o := 0) (v := x) (x := -1) (Or.inl ⟨t1, by omega⟩)
    refine ⟨U', K', ?_, by rw [h3]; exact e2⟩
    rw [l_begin F h18, y_b20 F T (by omega), y_b39 F T (by omega), if_neg (by omega), ← e1, nmO_no (Or.inl h1)]
    congr 1
    (rw [q_M_beginOne_39]; simp (disch := first | decide | omega | (simp (disch := first | decide | omega) only [sv_s, sv_o, ur_s, ur_e, ur_o]; omega)) only [↓reduceIte, iv_add, iv_sub, iv_mul, iv_neg, iv_ltT, iv_ltF, iv_leT, iv_leF, iv_eqT, iv_eqF, iv_div, iv_mod, ↓bnI_s, ↓bnV_s, ↓bnJ_s, ↓bnR_s, rt_e, rt_0, rt_bz, sv_s, sv_o, ur_s, ur_e, ur_o, bz_T, bz_F, nat_eqF, Nat.reduceAdd, ↓gI_435_9 F, il_0, il_1, il_2, il_4, il_5, il_9, il_11, il_20, il_39, il_40, il_41, il_45, il_65, il_97, il_99, il_101, il_102, il_105, il_110, il_111, il_113, il_114, il_115, il_116, il_117, il_118, t1])
  · have nk : sK s i ≠ 38 := fun x => by rw [x] at h1; exact absurd h1 (by decide)
    obtain ⟨n1, n2, n3, n4, n5⟩ := T.nop nk (fun x => by rw [x] at h1; exact absurd h1 (by decide)) (fun x => by rw [x] at h1; exact absurd h1 (by decide))
    obtain ⟨U', K', e1, e2⟩ := l_65 F S P hi hw (o := 1) (v := x) (x := nmO (sK s i)) (Or.inr ⟨by omega, h5⟩)
    refine ⟨U', K', ?_, by rw [h4]; exact e2⟩
    have nr := nmO_rg (sK s i)
    rw [l_begin F h18, y_b20 F T (by omega), y_b39 F T (by omega), if_neg (by omega), ← e1]
    congr 1
    generalize nmO (sK s i) = y at *
    generalize ht : U 435 9 = t at *
    clear e1 e2 T P
    (rw [q_M_beginOne_39]; simp (disch := first | decide | omega | (simp (disch := first | decide | omega) only [sv_s, sv_o, ur_s, ur_e, ur_o]; omega)) only [↓reduceIte, iv_add, iv_sub, iv_mul, iv_neg, iv_ltT, iv_ltF, iv_leT, iv_leF, iv_eqT, iv_eqF, iv_div, iv_mod, ↓bnI_s, ↓bnV_s, ↓bnJ_s, ↓bnR_s, rt_e, rt_0, rt_bz, sv_s, sv_o, ur_s, ur_e, ur_o, bz_T, bz_F, nat_eqF, Nat.reduceAdd, ↓gI_435_9 F, il_0, il_1, il_2, il_4, il_5, il_9, il_11, il_20, il_39, il_40, il_41, il_45, il_65, il_97, il_99, il_101, il_102, il_105, il_110, il_111, il_113, il_114, il_115, il_116, il_117, il_118, ht])
theorem l_fail2 (F : Fix z) (P : Ps U K s i p d w) (h18 : U 435 18 = 0) (h1 : sK s i = 38) (h2 : sV s i = 10000) : Lp (em U K z) = some (.int (iv 2), em U K z) := by
  rw [l_begin F h18, y_big F P.1.2 h1 h2, bnI_s, if_neg (by decide)]
theorem l_fail5 (F : Fix z) (S : SO s) (P : Ps U K s i p d w) (h18 : U 435 18 = 0) (h : (sK s i = 14 ∧ sL s = 1) ∨ (sK s i = 15 ∧ sL s = 0)) : Lp (em U K z) = some (.int (iv 5), em U K z) := by
  have p6 := P.2.2.2.2.2
  have sL01 := S.2.2.1
  rw [l_begin F h18, y_b20 F P.1.2 (by omega), y_b39 F P.1.2 (by omega), if_pos (by rw [p6]; exact h), bnI_s, if_neg (by decide)]
/-- the model at what opens, or asks -/
theorem l_39 (F : Fix z) (S : SO s) (P : Ps U K s i p d w) (h18 : U 435 18 = 0) (h1 : sK s i ≠ 38) (h2 : nmO (sK s i) = -1) : Lp (em U K z) = bnI (rX m_M_beginOne m_M_beginOne 39 [.ref 435, .int (iv (-1))] [] (em U K z)) fun x h => if x = 0 then Lp h else some (.int x, h) := by
  have p6 := P.2.2.2.2.2
  have sL01 := S.2.2.1
  have k5 : ¬ (sK s i = 14) := fun x => by rw [x] at h2; exact absurd h2 (by decide)
  have k6 : ¬ (sK s i = 15) := fun x => by rw [x] at h2; exact absurd h2 (by decide)
  rw [l_begin F h18, y_b20 F P.1.2 (by omega), y_b39 F P.1.2 (by omega), if_neg (by omega), h2]
theorem l_fail1 (F : Fix z) (S : SO s) (P : Ps U K s i p d w) (h18 : U 435 18 = 0) (h2 : nmO (sK s i) = -1) (hk : sK s i ≠ 38 ∧ sK s i ≠ 33 ∧ sK s i ≠ 30 ∧ sK s i ≠ 16 ∧ sK s i ≠ 17 ∧ sK s i ≠ 18) (ha : sK s i = 24 → cA m_M_isAskAhead [.ref 435] (em U K z) = some (.int (iv 0), em U K z)) : Lp (em U K z) = some (.int (iv 1), em U K z) := by
  rw [l_39 F S P h18 hk.1 h2, y_39n F P.1.2 hk ha, bnI_s, if_neg (by decide)]
theorem l_opened (F : Fix z) (S : SO s) (P : Ps U K s i p d w) (hi : 0 ≤ i ∧ i < sM s) (hd : 0 ≤ d ∧ d ≤ 8) (hp : 0 ≤ p ∧ p < 160) {o : Int} : (d = 8 → (bnI (bnI (cA m_M_opened [.ref 435, .int (iv o)] (em U K z)) fun w h => some (.int w, h)) fun x h => if x = 0 then Lp h else some (.int x, h)) = some (.int (iv 3), em U K z)) ∧ (d < 8 → ∃ U' K', (bnI (bnI (cA m_M_opened [.ref 435, .int (iv o)] (em U K z)) fun w h => some (.int w, h)) fun x h => if x = 0 then Lp h else some (.int x, h)) = Lp (em U' K' z) ∧ Ps U' K' s (i + 1) (p + 1) (d + 1) w ∧ U' 435 18 = U 435 18 ∧ frQ s p w U U' ∧ U' 440 p = o) := by
  obtain ⟨p1, p2, p3, p4, p5, p6⟩ := P
  constructor
  · intro h
    rw [y_opened8 F (by omega), bnI_s, bnI_s, if_neg (by decide)]
  · intro h
    have T1 : Mt (pushM (sv U 435 17 (U 435 17 + 1)) o) K s i := p1.c (by unfold pushM; simp (disch := first | decide | omega | (simp (disch := first | decide | omega) only [sv_s, sv_o, ur_s, ur_e, ur_o]; omega)) only [↓reduceIte, iv_add, iv_sub, iv_mul, iv_neg, iv_ltT, iv_ltF, iv_leT, iv_leF, iv_eqT, iv_eqF, iv_div, iv_mod, ↓bnI_s, ↓bnV_s, ↓bnJ_s, ↓bnR_s, rt_e, rt_0, rt_bz, sv_s, sv_o, ur_s, ur_e, ur_o, bz_T, bz_F, nat_eqF, Nat.reduceAdd]) (fun k hk => by unfold pushM; simp (disch := first | decide | omega | (simp (disch := first | decide | omega) only [sv_s, sv_o, ur_s, ur_e, ur_o]; omega)) only [↓reduceIte, iv_add, iv_sub, iv_mul, iv_neg, iv_ltT, iv_ltF, iv_leT, iv_leF, iv_eqT, iv_eqF, iv_div, iv_mod, ↓bnI_s, ↓bnV_s, ↓bnJ_s, ↓bnR_s, rt_e, rt_0, rt_bz, sv_s, sv_o, ur_s, ur_e, ur_o, bz_T, bz_F, nat_eqF, Nat.reduceAdd])
    obtain ⟨U2, K2, n1, n2, n3⟩ := T1.nextT F S hi
    have op := y_opened F (o := o) (by omega) (by omega) n1
    have q0 : pushM (sv U 435 17 (U 435 17 + 1)) o = sv (sv (sv U 435 17 (d + 1)) 440 p o) 435 16 (p + 1) := by unfold pushM; rw [p3]; simp (disch := first | decide | omega | (simp (disch := first | decide | omega) only [sv_s, sv_o, ur_s, ur_e, ur_o]; omega)) only [↓reduceIte, iv_add, iv_sub, iv_mul, iv_neg, iv_ltT, iv_ltF, iv_leT, iv_leF, iv_eqT, iv_eqF, iv_div, iv_mod, ↓bnI_s, ↓bnV_s, ↓bnJ_s, ↓bnR_s, rt_e, rt_0, rt_bz, sv_s, sv_o, ur_s, ur_e, ur_o, bz_T, bz_F, nat_eqF, Nat.reduceAdd, p2]
    rw [q0] at n2
    refine ⟨U2, K2, by rw [op, bnI_s, bnI_s, if_pos (show iv 0 = 0 from rfl)], ⟨n3, ?_, ?_, ?_, ?_, ?_⟩, ?_, (((frQ.w5 (by omega)).tr (frQ.w40 (Int.le_refl _)) (Int.le_refl _) (Int.le_refl _)).tr (frQ.w5 (by omega)) (Int.le_refl _) (Int.le_refl _)).tr (frQ.of_n n2) (Int.le_refl _) (Int.le_refl _), ?_⟩
    · simp (disch := first | decide | omega | (simp (disch := first | decide | omega) only [sv_s, sv_o, ur_s, ur_e, ur_o]; omega)) only [↓reduceIte, iv_add, iv_sub, iv_mul, iv_neg, iv_ltT, iv_ltF, iv_leT, iv_leF, iv_eqT, iv_eqF, iv_div, iv_mod, ↓bnI_s, ↓bnV_s, ↓bnJ_s, ↓bnR_s, rt_e, rt_0, rt_bz, sv_s, sv_o, ur_s, ur_e, ur_o, bz_T, bz_F, nat_eqF, Nat.reduceAdd, n2.2 16]
    · simp (disch := first | decide | omega | (simp (disch := first | decide | omega) only [sv_s, sv_o, ur_s, ur_e, ur_o]; omega)) only [↓reduceIte, iv_add, iv_sub, iv_mul, iv_neg, iv_ltT, iv_ltF, iv_leT, iv_leF, iv_eqT, iv_eqF, iv_div, iv_mod, ↓bnI_s, ↓bnV_s, ↓bnJ_s, ↓bnR_s, rt_e, rt_0, rt_bz, sv_s, sv_o, ur_s, ur_e, ur_o, bz_T, bz_F, nat_eqF, Nat.reduceAdd, n2.2 17]
    · simp (disch := first | decide | omega | (simp (disch := first | decide | omega) only [sv_s, sv_o, ur_s, ur_e, ur_o]; omega)) only [↓reduceIte, iv_add, iv_sub, iv_mul, iv_neg, iv_ltT, iv_ltF, iv_leT, iv_leF, iv_eqT, iv_eqF, iv_div, iv_mod, ↓bnI_s, ↓bnV_s, ↓bnJ_s, ↓bnR_s, rt_e, rt_0, rt_bz, sv_s, sv_o, ur_s, ur_e, ur_o, bz_T, bz_F, nat_eqF, Nat.reduceAdd, n2.2 13, p4]
    · simp (disch := first | decide | omega | (simp (disch := first | decide | omega) only [sv_s, sv_o, ur_s, ur_e, ur_o]; omega)) only [↓reduceIte, iv_add, iv_sub, iv_mul, iv_neg, iv_ltT, iv_ltF, iv_leT, iv_leF, iv_eqT, iv_eqF, iv_div, iv_mod, ↓bnI_s, ↓bnV_s, ↓bnJ_s, ↓bnR_s, rt_e, rt_0, rt_bz, sv_s, sv_o, ur_s, ur_e, ur_o, bz_T, bz_F, nat_eqF, Nat.reduceAdd, n2.2 12, p5]
    · simp (disch := first | decide | omega | (simp (disch := first | decide | omega) only [sv_s, sv_o, ur_s, ur_e, ur_o]; omega)) only [↓reduceIte, iv_add, iv_sub, iv_mul, iv_neg, iv_ltT, iv_ltF, iv_leT, iv_leF, iv_eqT, iv_eqF, iv_div, iv_mod, ↓bnI_s, ↓bnV_s, ↓bnJ_s, ↓bnR_s, rt_e, rt_0, rt_bz, sv_s, sv_o, ur_s, ur_e, ur_o, bz_T, bz_F, nat_eqF, Nat.reduceAdd, n2.2 14, p6]
    · simp (disch := first | decide | omega | (simp (disch := first | decide | omega) only [sv_s, sv_o, ur_s, ur_e, ur_o]; omega)) only [↓reduceIte, iv_add, iv_sub, iv_mul, iv_neg, iv_ltT, iv_ltF, iv_leT, iv_leF, iv_eqT, iv_eqF, iv_div, iv_mod, ↓bnI_s, ↓bnV_s, ↓bnJ_s, ↓bnR_s, rt_e, rt_0, rt_bz, sv_s, sv_o, ur_s, ur_e, ur_o, bz_T, bz_F, nat_eqF, Nat.reduceAdd, n2.2 18]
    · simp (disch := first | decide | omega | (simp (disch := first | decide | omega) only [sv_s, sv_o, ur_s, ur_e, ur_o]; omega)) only [↓reduceIte, iv_add, iv_sub, iv_mul, iv_neg, iv_ltT, iv_ltF, iv_leT, iv_leF, iv_eqT, iv_eqF, iv_div, iv_mod, ↓bnI_s, ↓bnV_s, ↓bnJ_s, ↓bnR_s, rt_e, rt_0, rt_bz, sv_s, sv_o, ur_s, ur_e, ur_o, bz_T, bz_F, nat_eqF, Nat.reduceAdd, n2.1 440]
end
