/-! THE READING, the model's pile -/
def rk (o : Int) : Int := if 40 ≤ o then 0 else if o = 22 then 1 else if o = 21 then 2 else if o = 20 then 3 else if 10 ≤ o then 4 else if 8 ≤ o then 6 else if 6 ≤ o then 5 else 7
theorem y_rank {o : Int} {h : Mem} (ho : 0 ≤ o ∧ o ≤ 43) : cA m_M_rank [.int (iv o)] h = some (.int (iv (rk o)), h) := by
  unfold rk
  by_cases h1 : 40 ≤ o
  · rw [if_pos h1]; simp (disch := first | decide | omega | (simp (disch := first | decide | omega) only [sv_s, sv_o, ur_s, ur_e, ur_o]; omega)) only [↓reduceIte, iv_add, iv_sub, iv_mul, iv_neg, iv_ltT, iv_ltF, iv_leT, iv_leF, iv_eqT, iv_eqF, iv_div, iv_mod, ↓bnI_s, ↓bnV_s, ↓bnJ_s, ↓bnR_s, rt_e, rt_0, rt_bz, sv_s, sv_o, ur_s, ur_e, ur_o, bz_T, bz_F, nat_eqF, Nat.reduceAdd, ↓q_M_rank, il_0, il_1, il_2, il_3, il_4, il_5, il_6, il_7, il_8, il_10, il_20, il_21, il_22, il_40]
  · rw [if_neg h1]
    by_cases h2 : o = 22
    · rw [if_pos h2, h2]; simp (disch := first | decide | omega | (simp (disch := first | decide | omega) only [sv_s, sv_o, ur_s, ur_e, ur_o]; omega)) only [↓reduceIte, iv_add, iv_sub, iv_mul, iv_neg, iv_ltT, iv_ltF, iv_leT, iv_leF, iv_eqT, iv_eqF, iv_div, iv_mod, ↓bnI_s, ↓bnV_s, ↓bnJ_s, ↓bnR_s, rt_e, rt_0, rt_bz, sv_s, sv_o, ur_s, ur_e, ur_o, bz_T, bz_F, nat_eqF, Nat.reduceAdd, ↓q_M_rank, il_0, il_1, il_2, il_3, il_4, il_5, il_6, il_7, il_8, il_10, il_20, il_21, il_22, il_40]
    · rw [if_neg h2]
      by_cases h3 : o = 21
      · rw [if_pos h3, h3]; simp (disch := first | decide | omega | (simp (disch := first | decide | omega) only [sv_s, sv_o, ur_s, ur_e, ur_o]; omega)) only [↓reduceIte, iv_add, iv_sub, iv_mul, iv_neg, iv_ltT, iv_ltF, iv_leT, iv_leF, iv_eqT, iv_eqF, iv_div, iv_mod, ↓bnI_s, ↓bnV_s, ↓bnJ_s, ↓bnR_s, rt_e, rt_0, rt_bz, sv_s, sv_o, ur_s, ur_e, ur_o, bz_T, bz_F, nat_eqF, Nat.reduceAdd, ↓q_M_rank, il_0, il_1, il_2, il_3, il_4, il_5, il_6, il_7, il_8, il_10, il_20, il_21, il_22, il_40]
      · rw [if_neg h3]
        by_cases h4 : o = 20
        · rw [if_pos h4, h4]; simp (disch := first | decide | omega | (simp (disch := first | decide | omega) only [sv_s, sv_o, ur_s, ur_e, ur_o]; omega)) only [↓reduceIte, iv_add, iv_sub, iv_mul, iv_neg, iv_ltT, iv_ltF, iv_leT, iv_leF, iv_eqT, iv_eqF, iv_div, iv_mod, ↓bnI_s, ↓bnV_s, ↓bnJ_s, ↓bnR_s, rt_e, rt_0, rt_bz, sv_s, sv_o, ur_s, ur_e, ur_o, bz_T, bz_F, nat_eqF, Nat.reduceAdd, ↓q_M_rank, il_0, il_1, il_2, il_3, il_4, il_5, il_6, il_7, il_8, il_10, il_20, il_21, il_22, il_40]
        · rw [if_neg h4]
          have h2' : o < 22 ∨ 22 < o := by omega
          have h3' : o < 21 ∨ 21 < o := by omega
          have h4' : o < 20 ∨ 20 < o := by omega
          by_cases h5 : 10 ≤ o
          · rw [if_pos h5]; simp (disch := first | decide | omega | (simp (disch := first | decide | omega) only [sv_s, sv_o, ur_s, ur_e, ur_o]; omega)) only [↓reduceIte, iv_add, iv_sub, iv_mul, iv_neg, iv_ltT, iv_ltF, iv_leT, iv_leF, iv_eqT, iv_eqF, iv_div, iv_mod, ↓bnI_s, ↓bnV_s, ↓bnJ_s, ↓bnR_s, rt_e, rt_0, rt_bz, sv_s, sv_o, ur_s, ur_e, ur_o, bz_T, bz_F, nat_eqF, Nat.reduceAdd, ↓q_M_rank, il_0, il_1, il_2, il_3, il_4, il_5, il_6, il_7, il_8, il_10, il_20, il_21, il_22, il_40]
          · rw [if_neg h5]
            by_cases h6 : 8 ≤ o
            · rw [if_pos h6]; simp (disch := first | decide | omega | (simp (disch := first | decide | omega) only [sv_s, sv_o, ur_s, ur_e, ur_o]; omega)) only [↓reduceIte, iv_add, iv_sub, iv_mul, iv_neg, iv_ltT, iv_ltF, iv_leT, iv_leF, iv_eqT, iv_eqF, iv_div, iv_mod, ↓bnI_s, ↓bnV_s, ↓bnJ_s, ↓bnR_s, rt_e, rt_0, rt_bz, sv_s, sv_o, ur_s, ur_e, ur_o, bz_T, bz_F, nat_eqF, Nat.reduceAdd, ↓q_M_rank, il_0, il_1, il_2, il_3, il_4, il_5, il_6, il_7, il_8, il_10, il_20, il_21, il_22, il_40]
            · rw [if_neg h6]
              by_cases h7 : 6 ≤ o
              · rw [if_pos h7]; simp (disch := first | decide | omega | (simp (disch := first | decide | omega) only [sv_s, sv_o, ur_s, ur_e, ur_o]; omega)) only [↓reduceIte, iv_add, iv_sub, iv_mul, iv_neg, iv_ltT, iv_ltF, iv_leT, iv_leF, iv_eqT, iv_eqF, iv_div, iv_mod, ↓bnI_s, ↓bnV_s, ↓bnJ_s, ↓bnR_s, rt_e, rt_0, rt_bz, sv_s, sv_o, ur_s, ur_e, ur_o, bz_T, bz_F, nat_eqF, Nat.reduceAdd, ↓q_M_rank, il_0, il_1, il_2, il_3, il_4, il_5, il_6, il_7, il_8, il_10, il_20, il_21, il_22, il_40]
              · rw [if_neg h7]; simp (disch := first | decide | omega | (simp (disch := first | decide | omega) only [sv_s, sv_o, ur_s, ur_e, ur_o]; omega)) only [↓reduceIte, iv_add, iv_sub, iv_mul, iv_neg, iv_ltT, iv_ltF, iv_leT, iv_leF, iv_eqT, iv_eqF, iv_div, iv_mod, ↓bnI_s, ↓bnV_s, ↓bnJ_s, ↓bnR_s, rt_e, rt_0, rt_bz, sv_s, sv_o, ur_s, ur_e, ur_o, bz_T, bz_F, nat_eqF, Nat.reduceAdd, ↓q_M_rank, il_0, il_1, il_2, il_3, il_4, il_5, il_6, il_7, il_8, il_10, il_20, il_21, il_22, il_40]
theorem rk_rg (o : Int) : 0 ≤ rk o ∧ rk o ≤ 7 := by unfold rk; repeat' split; all_goals omega
/-- one instruction more -/
def emM (U : Vm) (o v : Int) : Vm := sv (sv (sv U 438 (U 435 12 + 73 + 2 * U 435 13) o) 438 (U 435 12 + 73 + 2 * U 435 13 + 1) v) 435 13 (U 435 13 + 1)
/-- what waits at last goes into the code -/
def popM (U : Vm) : Vm := if rk (U 440 (U 435 16 - 1)) = 7 ∨ U 440 (U 435 16 - 1) = 20 then sv (emM (sv U 435 16 (U 435 16 - 1)) (U 440 (U 435 16 - 1)) 0) 435 17 (U 435 17 - 1) else emM (sv U 435 16 (U 435 16 - 1)) (U 440 (U 435 16 - 1)) 0
/-- room for one instruction -/
def Rm (U : Vm) : Prop := (0 ≤ U 435 12 ∧ U 435 12 ≤ 2043) ∧ (0 ≤ U 435 13 ∧ U 435 13 ≤ 303)
section
variable {U K : Vm} {z : Zz} {b : Int → Int} {p k e v : Int}
theorem y_M_emit (F : Fix z) (R : Rm U) {o x : Int} : cA m_M_emit [.ref 435, .int (iv o), .int (iv x)] (em U K z) = some (.null, em (emM U o x) K z) := by
  obtain ⟨r1, r2⟩ := R
  unfold emM
  generalize h1 : U 435 12 = c at *
  generalize h2 : U 435 13 = w at *
  simp (disch := first | decide | omega | (simp (disch := first | decide | omega) only [sv_s, sv_o, ur_s, ur_e, ur_o]; omega)) only [↓reduceIte, iv_add, iv_sub, iv_mul, iv_neg, iv_ltT, iv_ltF, iv_leT, iv_leF, iv_eqT, iv_eqF, iv_div, iv_mod, ↓bnI_s, ↓bnV_s, ↓bnJ_s, ↓bnR_s, rt_e, rt_0, rt_bz, sv_s, sv_o, ur_s, ur_e, ur_o, bz_T, bz_F, nat_eqF, Nat.reduceAdd, ↓q_M_emit, ↓gR_435_2 F, ↓gI_435_12 F, ↓gI_435_13 F, ↓pI_435_13 F, ↓sI_436 F, ↓sI_437 F, ↓sI_438 F, ↓sI_439 F, ↓sI_440 F, ↓sI_441 F, ↓sI_443 F, ↓sI_444 F, ↓sI_445 F, ↓sI_446 F, ↓sI_447 F, ↓sI_448 F, ↓sI_449 F, ↓sI_450 F, ↓gd_435 F, il_0, il_1, il_2, il_11, il_12, il_13, il_27, il_73, h1, h2]
theorem y_set0 (F : Fix z) {l : Int} : cA m_M_settle [.ref 435, .int (iv l)] (em U K z) = rX m_M_settle m_M_settle 0 [.ref 435, .int (iv l)] [] (em U K z) := by
  rw [q_M_settle, gd_435 F, q_M_settle_0]
theorem y_pop (F : Fix z) (R : Rm U) {l : Int} (hp : 0 < U 435 16 ∧ U 435 16 ≤ 160) (ho : 0 ≤ U 440 (U 435 16 - 1) ∧ U 440 (U 435 16 - 1) ≤ 43) (hl : -1 ≤ l ∧ l ≤ rk (U 440 (U 435 16 - 1))) (hd : 0 ≤ U 435 17 ∧ U 435 17 ≤ 10) : cA m_M_settle [.ref 435, .int (iv l)] (em U K z) = cA m_M_settle [.ref 435, .int (iv l)] (em (popM U) K z) := by
  rw [y_set0 F, y_set0 F]
  obtain ⟨q, hq⟩ : ∃ q, q = U 435 16 := ⟨_, rfl⟩
  obtain ⟨o, ho'⟩ : ∃ o, o = U 440 (q - 1) := ⟨_, rfl⟩
  have hq' := hq.symm
  have ho1 := ho'.symm
  rw [hq'] at ho hl hp
  rw [ho1] at ho hl
  have R1 : Rm (sv U 435 16 (q - 1)) := by
    unfold Rm at *
    simp (disch := first | decide | omega | (simp (disch := first | decide | omega) only [sv_s, sv_o, ur_s, ur_e, ur_o]; omega)) only [↓reduceIte, iv_add, iv_sub, iv_mul, iv_neg, iv_ltT, iv_ltF, iv_leT, iv_leF, iv_eqT, iv_eqF, iv_div, iv_mod, ↓bnI_s, ↓bnV_s, ↓bnJ_s, ↓bnR_s, rt_e, rt_0, rt_bz, sv_s, sv_o, ur_s, ur_e, ur_o, bz_T, bz_F, nat_eqF, Nat.reduceAdd]
    exact R
  have em1 := y_M_emit (K := K) F R1 (o := o) (x := 0)
  have rk1 := y_rank (h := em U K z) ho
  obtain ⟨W, hW⟩ : ∃ W, W = emM (sv U 435 16 (q - 1)) o 0 := ⟨_, rfl⟩
  have rk2 := y_rank (h := em W K z) ho
  have w16 : W 435 16 = q - 1 := by rw [hW]; unfold emM; simp (disch := first | decide | omega | (simp (disch := first | decide | omega) only [sv_s, sv_o, ur_s, ur_e, ur_o]; omega)) only [↓reduceIte, iv_add, iv_sub, iv_mul, iv_neg, iv_ltT, iv_ltF, iv_leT, iv_leF, iv_eqT, iv_eqF, iv_div, iv_mod, ↓bnI_s, ↓bnV_s, ↓bnJ_s, ↓bnR_s, rt_e, rt_0, rt_bz, sv_s, sv_o, ur_s, ur_e, ur_o, bz_T, bz_F, nat_eqF, Nat.reduceAdd]
  have w17 : W 435 17 = U 435 17 := by rw [hW]; unfold emM; simp (disch := first | decide | omega | (simp (disch := first | decide | omega) only [sv_s, sv_o, ur_s, ur_e, ur_o]; omega)) only [↓reduceIte, iv_add, iv_sub, iv_mul, iv_neg, iv_ltT, iv_ltF, iv_leT, iv_leF, iv_eqT, iv_eqF, iv_div, iv_mod, ↓bnI_s, ↓bnV_s, ↓bnJ_s, ↓bnR_s, rt_e, rt_0, rt_bz, sv_s, sv_o, ur_s, ur_e, ur_o, bz_T, bz_F, nat_eqF, Nat.reduceAdd]
  have w440 : W 440 = U 440 := by rw [hW]; unfold emM; simp (disch := first | decide | omega | (simp (disch := first | decide | omega) only [sv_s, sv_o, ur_s, ur_e, ur_o]; omega)) only [↓reduceIte, iv_add, iv_sub, iv_mul, iv_neg, iv_ltT, iv_ltF, iv_leT, iv_leF, iv_eqT, iv_eqF, iv_div, iv_mod, ↓bnI_s, ↓bnV_s, ↓bnJ_s, ↓bnR_s, rt_e, rt_0, rt_bz, sv_s, sv_o, ur_s, ur_e, ur_o, bz_T, bz_F, nat_eqF, Nat.reduceAdd]
  have ep : popM U = if rk o = 7 ∨ o = 20 then sv W 435 17 (U 435 17 - 1) else W := by
    unfold popM
    rw [hq', ho1, ← hW]
  rw [ep]
  rw [← hW] at em1
  have rr := rk_rg o
  generalize hd0 : U 435 17 = d at *
  generalize hr : rk o = r at *
  conv => lhs; rw [q_M_settle_0]
  by_cases c7 : r = 7
  · rw [if_pos (Or.inl c7)]
    rw [c7] at rk1 rk2 hl
    simp (disch := first | decide | omega | (simp (disch := first | decide | omega) only [sv_s, sv_o, ur_s, ur_e, ur_o]; omega)) only [↓reduceIte, iv_add, iv_sub, iv_mul, iv_neg, iv_ltT, iv_ltF, iv_leT, iv_leF, iv_eqT, iv_eqF, iv_div, iv_mod, ↓bnI_s, ↓bnV_s, ↓bnJ_s, ↓bnR_s, rt_e, rt_0, rt_bz, sv_s, sv_o, ur_s, ur_e, ur_o, bz_T, bz_F, nat_eqF, Nat.reduceAdd, ↓gI_435_16 F, ↓gR_435_15 F, ↓gI_435_17 F, ↓pI_435_16 F, ↓pI_435_17 F, ↓lI_436 F, ↓lI_437 F, ↓lI_438 F, ↓lI_439 F, ↓lI_440 F, ↓lI_441 F, ↓lI_443 F, ↓lI_444 F, ↓lI_445 F, ↓lI_446 F, ↓lI_447 F, ↓lI_448 F, ↓lI_449 F, ↓lI_450 F, il_0, il_1, il_7, il_11, il_15, il_16, il_17, il_20, hq', ho1, rk1, em1, rk2, w16, w17, w440]
  · by_cases c20 : o = 20
    · rw [if_pos (Or.inr c20)]
      have c7' : r < 7 := by omega
      clear ep
      subst c20
      simp (disch := first | decide | omega | (simp (disch := first | decide | omega) only [sv_s, sv_o, ur_s, ur_e, ur_o]; omega)) only [↓reduceIte, iv_add, iv_sub, iv_mul, iv_neg, iv_ltT, iv_ltF, iv_leT, iv_leF, iv_eqT, iv_eqF, iv_div, iv_mod, ↓bnI_s, ↓bnV_s, ↓bnJ_s, ↓bnR_s, rt_e, rt_0, rt_bz, sv_s, sv_o, ur_s, ur_e, ur_o, bz_T, bz_F, nat_eqF, Nat.reduceAdd, ↓gI_435_16 F, ↓gR_435_15 F, ↓gI_435_17 F, ↓pI_435_16 F, ↓pI_435_17 F, ↓lI_436 F, ↓lI_437 F, ↓lI_438 F, ↓lI_439 F, ↓lI_440 F, ↓lI_441 F, ↓lI_443 F, ↓lI_444 F, ↓lI_445 F, ↓lI_446 F, ↓lI_447 F, ↓lI_448 F, ↓lI_449 F, ↓lI_450 F, il_0, il_1, il_7, il_11, il_15, il_16, il_17, il_20, hq', ho1, rk1, em1, rk2, w16, w17, w440]
    · rw [if_neg (by omega)]
      have c7' : r < 7 := by omega
      have c20' : o < 20 ∨ 20 < o := by omega
      simp (disch := first | decide | omega | (simp (disch := first | decide | omega) only [sv_s, sv_o, ur_s, ur_e, ur_o]; omega)) only [↓reduceIte, iv_add, iv_sub, iv_mul, iv_neg, iv_ltT, iv_ltF, iv_leT, iv_leF, iv_eqT, iv_eqF, iv_div, iv_mod, ↓bnI_s, ↓bnV_s, ↓bnJ_s, ↓bnR_s, rt_e, rt_0, rt_bz, sv_s, sv_o, ur_s, ur_e, ur_o, bz_T, bz_F, nat_eqF, Nat.reduceAdd, ↓gI_435_16 F, ↓gR_435_15 F, ↓gI_435_17 F, ↓pI_435_16 F, ↓pI_435_17 F, ↓lI_436 F, ↓lI_437 F, ↓lI_438 F, ↓lI_439 F, ↓lI_440 F, ↓lI_441 F, ↓lI_443 F, ↓lI_444 F, ↓lI_445 F, ↓lI_446 F, ↓lI_447 F, ↓lI_448 F, ↓lI_449 F, ↓lI_450 F, il_0, il_1, il_7, il_11, il_15, il_16, il_17, il_20, hq', ho1, rk1, em1, rk2, w16, w17, w440]
/-- there is nothing to settle -/
theorem y_stop (F : Fix z) {l : Int} (hl : -1 ≤ l ∧ l ≤ 9) (hp : U 435 16 = 0 ∨ ((0 < U 435 16 ∧ U 435 16 ≤ 160) ∧ (0 ≤ U 440 (U 435 16 - 1) ∧ U 440 (U 435 16 - 1) ≤ 43) ∧ rk (U 440 (U 435 16 - 1)) < l)) : cA m_M_settle [.ref 435, .int (iv l)] (em U K z) = some (.null, em U K z) := by
  rcases hp with hp | ⟨h1, h2, h3⟩
  · simp (disch := first | decide | omega | (simp (disch := first | decide | omega) only [sv_s, sv_o, ur_s, ur_e, ur_o]; omega)) only [↓reduceIte, iv_add, iv_sub, iv_mul, iv_neg, iv_ltT, iv_ltF, iv_leT, iv_leF, iv_eqT, iv_eqF, iv_div, iv_mod, ↓bnI_s, ↓bnV_s, ↓bnJ_s, ↓bnR_s, rt_e, rt_0, rt_bz, sv_s, sv_o, ur_s, ur_e, ur_o, bz_T, bz_F, nat_eqF, Nat.reduceAdd, ↓q_M_settle, ↓gI_435_16 F, ↓gR_435_15 F, ↓gI_435_17 F, ↓pI_435_16 F, ↓pI_435_17 F, ↓lI_436 F, ↓lI_437 F, ↓lI_438 F, ↓lI_439 F, ↓lI_440 F, ↓lI_441 F, ↓lI_443 F, ↓lI_444 F, ↓lI_445 F, ↓lI_446 F, ↓lI_447 F, ↓lI_448 F, ↓lI_449 F, ↓lI_450 F, ↓gd_435 F, il_0, il_1, il_7, il_11, il_15, il_16, il_17, il_20, il_27, hp]
  · have rk1 := y_rank (h := em U K z) h2
    have rr := rk_rg (U 440 (U 435 16 - 1))
    generalize rk (U 440 (U 435 16 - 1)) = r at *
    generalize hq : U 435 16 = q at *
    generalize ho : U 440 (q - 1) = o at *
    simp (disch := first | decide | omega | (simp (disch := first | decide | omega) only [sv_s, sv_o, ur_s, ur_e, ur_o]; omega)) only [↓reduceIte, iv_add, iv_sub, iv_mul, iv_neg, iv_ltT, iv_ltF, iv_leT, iv_leF, iv_eqT, iv_eqF, iv_div, iv_mod, ↓bnI_s, ↓bnV_s, ↓bnJ_s, ↓bnR_s, rt_e, rt_0, rt_bz, sv_s, sv_o, ur_s, ur_e, ur_o, bz_T, bz_F, nat_eqF, Nat.reduceAdd, ↓q_M_settle, ↓gI_435_16 F, ↓gR_435_15 F, ↓gI_435_17 F, ↓pI_435_16 F, ↓pI_435_17 F, ↓lI_436 F, ↓lI_437 F, ↓lI_438 F, ↓lI_439 F, ↓lI_440 F, ↓lI_441 F, ↓lI_443 F, ↓lI_444 F, ↓lI_445 F, ↓lI_446 F, ↓lI_447 F, ↓lI_448 F, ↓lI_449 F, ↓lI_450 F, ↓gd_435 F, il_0, il_1, il_7, il_11, il_15, il_16, il_17, il_20, il_27, hq, ho, rk1]
/-- where what is open at last lies -/
def OA (U : Vm) (p k0 : Int) : Prop := (-1 ≤ k0 ∧ k0 < p) ∧ (∀ j, k0 < j → j < p → 0 ≤ U 440 j ∧ U 440 j < 40) ∧ (k0 = -1 ∨ (0 ≤ k0 ∧ 40 ≤ U 440 k0 ∧ U 440 k0 ≤ 43))
theorem OA.nn {p k0 : Int} (h : OA U p k0) : k0 = -1 ∨ (0 ≤ k0 ∧ 40 ≤ U 440 k0 ∧ U 440 k0 ≤ 43) := h.2.2
theorem y_openAt_l (F : Fix z) {k0 : Int} (hp : 0 ≤ p ∧ p ≤ 160) (O : (-1 ≤ k0) ∧ (∀ j, k0 < j → j < p → 0 ≤ U 440 j ∧ U 440 j < 40) ∧ (k0 = -1 ∨ (0 ≤ k0 ∧ 40 ≤ U 440 k0 ∧ U 440 k0 ≤ 43))) : ∀ (m : Nat) (j : Int), j = k0 + m → j < p → rX m_M_openAt m_M_openAt 7 [.ref 435, .int (iv j)] [] (em U K z) = some (.int (iv k0), em U K z) := by
  obtain ⟨o1, o2, o3⟩ := O
  intro m
  induction m with
  | zero =>
    intro j hj jp
    have e : j = k0 := by omega
    subst e
    rcases o3 with o3 | ⟨o3, o4, o5⟩
    · rw [o3]
      (rw [q_M_openAt_7]; simp (disch := first | decide | omega | (simp (disch := first | decide | omega) only [sv_s, sv_o, ur_s, ur_e, ur_o]; omega)) only [↓reduceIte, iv_add, iv_sub, iv_mul, iv_neg, iv_ltT, iv_ltF, iv_leT, iv_leF, iv_eqT, iv_eqF, iv_div, iv_mod, ↓bnI_s, ↓bnV_s, ↓bnJ_s, ↓bnR_s, rt_e, rt_0, rt_bz, sv_s, sv_o, ur_s, ur_e, ur_o, bz_T, bz_F, nat_eqF, Nat.reduceAdd, ↓gR_435_15 F, ↓lI_436 F, ↓lI_437 F, ↓lI_438 F, ↓lI_439 F, ↓lI_440 F, ↓lI_441 F, ↓lI_443 F, ↓lI_444 F, ↓lI_445 F, ↓lI_446 F, ↓lI_447 F, ↓lI_448 F, ↓lI_449 F, ↓lI_450 F, il_0, il_1, il_7, il_11, il_15, il_40])
    · generalize ho : U 440 j = o at *
      (rw [q_M_openAt_7]; simp (disch := first | decide | omega | (simp (disch := first | decide | omega) only [sv_s, sv_o, ur_s, ur_e, ur_o]; omega)) only [↓reduceIte, iv_add, iv_sub, iv_mul, iv_neg, iv_ltT, iv_ltF, iv_leT, iv_leF, iv_eqT, iv_eqF, iv_div, iv_mod, ↓bnI_s, ↓bnV_s, ↓bnJ_s, ↓bnR_s, rt_e, rt_0, rt_bz, sv_s, sv_o, ur_s, ur_e, ur_o, bz_T, bz_F, nat_eqF, Nat.reduceAdd, ↓gR_435_15 F, ↓lI_436 F, ↓lI_437 F, ↓lI_438 F, ↓lI_439 F, ↓lI_440 F, ↓lI_441 F, ↓lI_443 F, ↓lI_444 F, ↓lI_445 F, ↓lI_446 F, ↓lI_447 F, ↓lI_448 F, ↓lI_449 F, ↓lI_450 F, il_0, il_1, il_7, il_11, il_15, il_40, ho])
  | succ m ih =>
    intro j hj jp
    rw [← ih (j + -1) (by omega) (by omega)]
    have q := o2 j (by omega) jp
    generalize ho : U 440 j = o at *
    conv => lhs; rw [q_M_openAt_7]
    simp (disch := first | decide | omega | (simp (disch := first | decide | omega) only [sv_s, sv_o, ur_s, ur_e, ur_o]; omega)) only [↓reduceIte, iv_add, iv_sub, iv_mul, iv_neg, iv_ltT, iv_ltF, iv_leT, iv_leF, iv_eqT, iv_eqF, iv_div, iv_mod, ↓bnI_s, ↓bnV_s, ↓bnJ_s, ↓bnR_s, rt_e, rt_0, rt_bz, sv_s, sv_o, ur_s, ur_e, ur_o, bz_T, bz_F, nat_eqF, Nat.reduceAdd, ↓gR_435_15 F, ↓lI_436 F, ↓lI_437 F, ↓lI_438 F, ↓lI_439 F, ↓lI_440 F, ↓lI_441 F, ↓lI_443 F, ↓lI_444 F, ↓lI_445 F, ↓lI_446 F, ↓lI_447 F, ↓lI_448 F, ↓lI_449 F, ↓lI_450 F, il_0, il_1, il_7, il_11, il_15, il_40, ho]
theorem y_openAt (F : Fix z) {k0 : Int} (hp : U 435 16 = p) (p2 : 0 ≤ p ∧ p ≤ 160) (O : (-1 ≤ k0 ∧ (k0 < p ∨ k0 = -1)) ∧ (∀ j, k0 < j → j < p → 0 ≤ U 440 j ∧ U 440 j < 40) ∧ (k0 = -1 ∨ (0 ≤ k0 ∧ 40 ≤ U 440 k0 ∧ U 440 k0 ≤ 43))) : cA m_M_openAt [.ref 435] (em U K z) = some (.int (iv k0), em U K z) := by
  have l := y_openAt_l (K := K) F p2 ⟨O.1.1, O.2⟩ (p - 1 - k0).toNat (p - 1) (by omega) (by omega)
  simp (disch := first | decide | omega | (simp (disch := first | decide | omega) only [sv_s, sv_o, ur_s, ur_e, ur_o]; omega)) only [↓reduceIte, iv_add, iv_sub, iv_mul, iv_neg, iv_ltT, iv_ltF, iv_leT, iv_leF, iv_eqT, iv_eqF, iv_div, iv_mod, ↓bnI_s, ↓bnV_s, ↓bnJ_s, ↓bnR_s, rt_e, rt_0, rt_bz, sv_s, sv_o, ur_s, ur_e, ur_o, bz_T, bz_F, nat_eqF, Nat.reduceAdd, ↓q_M_openAt, ↓gI_435_16 F, ↓gd_435 F, il_0, il_1, il_7, il_11, il_16, il_27, hp, l]
end
