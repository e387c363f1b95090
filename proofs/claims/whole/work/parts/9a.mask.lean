/-! THE READING, what the model asks of its pile -/
theorem bn_IV {x : Rs} {g : Mem → Rs} {f : Int32 → Mem → Rs} : bnI (bnV x g) f = bnV x (fun h => bnI (g h) f) := by
  unfold bnV
  split <;> rfl
theorem bn_VV {x : Rs} {g : Mem → Rs} {f : Mem → Rs} : bnV (bnV x g) f = bnV x (fun h => bnV (g h) f) := by
  conv => lhs; arg 1; unfold bnV
  conv => rhs; unfold bnV
  split <;> rfl
def OAp (U : Vm) (p k0 : Int) : Prop := (-1 ≤ k0 ∧ (k0 < p ∨ k0 = -1)) ∧ (∀ j, k0 < j → j < p → 0 ≤ U 440 j ∧ U 440 j < 40) ∧ (k0 = -1 ∨ (0 ≤ k0 ∧ 40 ≤ U 440 k0 ∧ U 440 k0 ≤ 43))
def ICp (U : Vm) (p k1 : Int) : Prop := (-1 ≤ k1 ∧ (k1 < p ∨ k1 = -1)) ∧ (∀ j, k1 < j → j < p → 0 ≤ U 440 j ∧ U 440 j ≤ 9) ∧ (k1 = -1 ∨ (0 ≤ k1 ∧ ((10 ≤ U 440 k1 ∧ U 440 k1 ≤ 22) ∨ (40 ≤ U 440 k1 ∧ U 440 k1 ≤ 43))))
/-- what is open now -/
def opn (U : Vm) (k0 : Int) : Int := if k0 = -1 then -1 else U 440 k0
section
variable {U K : Vm} {z : Zz} {b : Int → Int} {n p k e v q k0 k1 : Int}
theorem OAp.rg (O : OAp U q k0) : opn U k0 = -1 ∨ (40 ≤ opn U k0 ∧ opn U k0 ≤ 43) := by
  unfold opn
  by_cases h : k0 = -1
  · rw [if_pos h]; exact Or.inl rfl
  · rw [if_neg h]
    rcases O.2.2 with h2 | h2
    · exact absurd h2 h
    · exact Or.inr h2.2
theorem y_openNow (F : Fix z) (hp : U 435 16 = q) (p2 : 0 ≤ q ∧ q ≤ 160) (O : OAp U q k0) : cA m_M_openNow [.ref 435] (em U K z) = some (.int (iv (opn U k0)), em U K z) := by
  have a := y_openAt (K := K) F hp p2 O
  obtain ⟨o1, o2, o3⟩ := O
  unfold opn
  by_cases h : k0 = -1
  · rw [if_pos h]
    rw [h] at a
    simp (disch := first | decide | omega | (simp (disch := first | decide | omega) only [sv_s, sv_o, ur_s, ur_e, ur_o]; omega)) only [↓reduceIte, iv_add, iv_sub, iv_mul, iv_neg, iv_ltT, iv_ltF, iv_leT, iv_leF, iv_eqT, iv_eqF, iv_div, iv_mod, ↓bnI_s, ↓bnV_s, ↓bnJ_s, ↓bnR_s, rt_e, rt_0, rt_bz, sv_s, sv_o, ur_s, ur_e, ur_o, bz_T, bz_F, nat_eqF, Nat.reduceAdd, ↓q_M_openNow, ↓gR_435_15 F, ↓lI_436 F, ↓lI_437 F, ↓lI_438 F, ↓lI_439 F, ↓lI_440 F, ↓lI_441 F, ↓lI_443 F, ↓lI_444 F, ↓lI_445 F, ↓lI_446 F, ↓lI_447 F, ↓lI_448 F, ↓lI_449 F, ↓lI_450 F, ↓gd_435 F, il_0, il_1, il_11, il_15, il_27, a]
  · rw [if_neg h]
    have h0 : 0 ≤ k0 ∧ k0 < q := by omega
    simp (disch := first | decide | omega | (simp (disch := first | decide | omega) only [sv_s, sv_o, ur_s, ur_e, ur_o]; omega)) only [↓reduceIte, iv_add, iv_sub, iv_mul, iv_neg, iv_ltT, iv_ltF, iv_leT, iv_leF, iv_eqT, iv_eqF, iv_div, iv_mod, ↓bnI_s, ↓bnV_s, ↓bnJ_s, ↓bnR_s, rt_e, rt_0, rt_bz, sv_s, sv_o, ur_s, ur_e, ur_o, bz_T, bz_F, nat_eqF, Nat.reduceAdd, ↓q_M_openNow, ↓gR_435_15 F, ↓lI_436 F, ↓lI_437 F, ↓lI_438 F, ↓lI_439 F, ↓lI_440 F, ↓lI_441 F, ↓lI_443 F, ↓lI_444 F, ↓lI_445 F, ↓lI_446 F, ↓lI_447 F, ↓lI_448 F, ↓lI_449 F, ↓lI_450 F, ↓gd_435 F, il_0, il_1, il_11, il_15, il_27, a]
theorem rk_hi {o : Int} (h : (10 ≤ o ∧ o ≤ 22) ∨ (40 ≤ o ∧ o ≤ 43)) : rk o ≤ 4 ∧ (rk o = 4 ↔ o ≤ 19) := by
  unfold rk
  by_cases h1 : 40 ≤ o
  · rw [if_pos h1]; omega
  · rw [if_neg h1]
    by_cases h2 : o = 22
    · rw [if_pos h2]; omega
    · rw [if_neg h2]
      by_cases h3 : o = 21
      · rw [if_pos h3]; omega
      · rw [if_neg h3]
        by_cases h4 : o = 20
        · rw [if_pos h4]; omega
        · rw [if_neg h4]
          by_cases h5 : 10 ≤ o
          · rw [if_pos h5]; omega
          · omega
theorem rk_lo {o : Int} (h : o ≤ 9) : 5 ≤ rk o := by unfold rk; repeat' split; all_goals omega
theorem y_isCompared_l (F : Fix z) (hp : U 435 16 = q) (p2 : 0 ≤ q ∧ q ≤ 160) (C : ICp U q k1) : ∀ (m : Nat) (j : Int), j = k1 + m → j < q → rX m_M_isCompared m_M_isCompared 7 [.ref 435, .int (iv j)] [] (em U K z) = some (.int (iv (bz (k1 ≠ -1 ∧ U 440 k1 ≤ 19))), em U K z) := by
  obtain ⟨c1, c2, c3⟩ := C
  intro m
  induction m with
  | zero =>
    intro j hj jp
    have e : j = k1 := by omega
    subst e
    rcases c3 with c3 | ⟨c3, c4⟩
    · rw [bz_F (fun w => w.1 c3), c3]
      (rw [q_M_isCompared_7]; simp (disch := first | decide | omega | (simp (disch := first | decide | omega) only [sv_s, sv_o, ur_s, ur_e, ur_o]; omega)) only [↓reduceIte, iv_add, iv_sub, iv_mul, iv_neg, iv_ltT, iv_ltF, iv_leT, iv_leF, iv_eqT, iv_eqF, iv_div, iv_mod, ↓bnI_s, ↓bnV_s, ↓bnJ_s, ↓bnR_s, rt_e, rt_0, rt_bz, sv_s, sv_o, ur_s, ur_e, ur_o, bz_T, bz_F, nat_eqF, Nat.reduceAdd, ↓gR_435_15 F, ↓lI_436 F, ↓lI_437 F, ↓lI_438 F, ↓lI_439 F, ↓lI_440 F, ↓lI_441 F, ↓lI_443 F, ↓lI_444 F, ↓lI_445 F, ↓lI_446 F, ↓lI_447 F, ↓lI_448 F, ↓lI_449 F, ↓lI_450 F, il_0, il_1, il_4, il_7, il_11, il_15, il_30, ↓q_M_isCompared_30])
    · have rk1 := y_rank (o := U 440 j) (h := em U K z) (by omega)
      have hi := rk_hi (o := U 440 j) (by omega)
      have rr := rk_rg (U 440 j)
      by_cases h : U 440 j ≤ 19
      · rw [bz_T ⟨by omega, h⟩]
        have r4 : rk (U 440 j) = 4 := hi.2.mpr h
        rw [r4] at rk1
        generalize ho : U 440 j = o at *
        (rw [q_M_isCompared_7]; simp (disch := first | decide | omega | (simp (disch := first | decide | omega) only [sv_s, sv_o, ur_s, ur_e, ur_o]; omega)) only [↓reduceIte, iv_add, iv_sub, iv_mul, iv_neg, iv_ltT, iv_ltF, iv_leT, iv_leF, iv_eqT, iv_eqF, iv_div, iv_mod, ↓bnI_s, ↓bnV_s, ↓bnJ_s, ↓bnR_s, rt_e, rt_0, rt_bz, sv_s, sv_o, ur_s, ur_e, ur_o, bz_T, bz_F, nat_eqF, Nat.reduceAdd, ↓gR_435_15 F, ↓lI_436 F, ↓lI_437 F, ↓lI_438 F, ↓lI_439 F, ↓lI_440 F, ↓lI_441 F, ↓lI_443 F, ↓lI_444 F, ↓lI_445 F, ↓lI_446 F, ↓lI_447 F, ↓lI_448 F, ↓lI_449 F, ↓lI_450 F, il_0, il_1, il_4, il_7, il_11, il_15, il_30, ↓q_M_isCompared_30, ho, rk1])
      · rw [bz_F (fun w => h w.2)]
        have r4 : rk (U 440 j) < 4 := by omega
        generalize ho : U 440 j = o at *
        generalize rk o = r at *
        (rw [q_M_isCompared_7]; simp (disch := first | decide | omega | (simp (disch := first | decide | omega) only [sv_s, sv_o, ur_s, ur_e, ur_o]; omega)) only [↓reduceIte, iv_add, iv_sub, iv_mul, iv_neg, iv_ltT, iv_ltF, iv_leT, iv_leF, iv_eqT, iv_eqF, iv_div, iv_mod, ↓bnI_s, ↓bnV_s, ↓bnJ_s, ↓bnR_s, rt_e, rt_0, rt_bz, sv_s, sv_o, ur_s, ur_e, ur_o, bz_T, bz_F, nat_eqF, Nat.reduceAdd, ↓gR_435_15 F, ↓lI_436 F, ↓lI_437 F, ↓lI_438 F, ↓lI_439 F, ↓lI_440 F, ↓lI_441 F, ↓lI_443 F, ↓lI_444 F, ↓lI_445 F, ↓lI_446 F, ↓lI_447 F, ↓lI_448 F, ↓lI_449 F, ↓lI_450 F, il_0, il_1, il_4, il_7, il_11, il_15, il_30, ↓q_M_isCompared_30, ho, rk1])
  | succ m ih =>
    intro j hj jp
    rw [← ih (j + -1) (by omega) (by omega)]
    have q1 := c2 j (by omega) jp
    have rk1 := y_rank (o := U 440 j) (h := em U K z) (by omega)
    have r5 := rk_lo (o := U 440 j) (by omega)
    have rr := rk_rg (U 440 j)
    generalize ho : U 440 j = o at *
    generalize rk o = r at *
    conv => lhs; rw [q_M_isCompared_7]
    simp (disch := first | decide | omega | (simp (disch := first | decide | omega) only [sv_s, sv_o, ur_s, ur_e, ur_o]; omega)) only [↓reduceIte, iv_add, iv_sub, iv_mul, iv_neg, iv_ltT, iv_ltF, iv_leT, iv_leF, iv_eqT, iv_eqF, iv_div, iv_mod, ↓bnI_s, ↓bnV_s, ↓bnJ_s, ↓bnR_s, rt_e, rt_0, rt_bz, sv_s, sv_o, ur_s, ur_e, ur_o, bz_T, bz_F, nat_eqF, Nat.reduceAdd, ↓gR_435_15 F, ↓lI_436 F, ↓lI_437 F, ↓lI_438 F, ↓lI_439 F, ↓lI_440 F, ↓lI_441 F, ↓lI_443 F, ↓lI_444 F, ↓lI_445 F, ↓lI_446 F, ↓lI_447 F, ↓lI_448 F, ↓lI_449 F, ↓lI_450 F, il_0, il_1, il_4, il_7, il_11, il_15, il_30, ho, rk1]
theorem y_isCompared (F : Fix z) (hp : U 435 16 = q) (p2 : 0 ≤ q ∧ q ≤ 160) (C : ICp U q k1) : cA m_M_isCompared [.ref 435] (em U K z) = some (.int (iv (bz (k1 ≠ -1 ∧ U 440 k1 ≤ 19))), em U K z) := by
  have c1 := C.1
  have l := y_isCompared_l (K := K) F hp p2 C (q - 1 - k1).toNat (q - 1) (by omega) (by omega)
  simp (disch := first | decide | omega | (simp (disch := first | decide | omega) only [sv_s, sv_o, ur_s, ur_e, ur_o]; omega)) only [↓reduceIte, iv_add, iv_sub, iv_mul, iv_neg, iv_ltT, iv_ltF, iv_leT, iv_leF, iv_eqT, iv_eqF, iv_div, iv_mod, ↓bnI_s, ↓bnV_s, ↓bnJ_s, ↓bnR_s, rt_e, rt_0, rt_bz, sv_s, sv_o, ur_s, ur_e, ur_o, bz_T, bz_F, nat_eqF, Nat.reduceAdd, ↓q_M_isCompared, ↓gI_435_16 F, ↓gd_435 F, il_0, il_1, il_7, il_11, il_16, il_27, hp, l]
theorem y_between_ar (F : Fix z) (T : MT U K b p k e v) (hk : 29 ≤ k ∧ k ≤ 32) : cA m_M_betweenOf [.ref 435] (em U K z) = some (.int (iv (k - 23)), em U K z) := by
  have tt := T.tt
  have h4 : (k = 29 ∧ U 435 9 = 43) ∨ (k = 30 ∧ U 435 9 = 45) ∨ (k = 31 ∧ U 435 9 = 42) ∨ (k = 32 ∧ U 435 9 = 47) := by unfold Tt sgT at tt; omega
  rcases h4 with ⟨rfl, h⟩ | ⟨rfl, h⟩ | ⟨rfl, h⟩ | ⟨rfl, h⟩
  all_goals
    simp (disch := first | decide | omega | (simp (disch := first | decide | omega) only [sv_s, sv_o, ur_s, ur_e, ur_o]; omega)) only [↓reduceIte, iv_add, iv_sub, iv_mul, iv_neg, iv_ltT, iv_ltF, iv_leT, iv_leF, iv_eqT, iv_eqF, iv_div, iv_mod, ↓bnI_s, ↓bnV_s, ↓bnJ_s, ↓bnR_s, rt_e, rt_0, rt_bz, sv_s, sv_o, ur_s, ur_e, ur_o, bz_T, bz_F, nat_eqF, Nat.reduceAdd, ↓q_M_betweenOf, ↓gI_435_9 F, ↓gd_435 F, il_0, il_1, il_6, il_7, il_8, il_9, il_11, il_21, il_22, il_27, il_41, il_42, il_43, il_45, il_47, il_97, il_100, il_110, il_111, il_114, h]
    rfl
theorem MT.noar (T : MT U K b p k e v) (hk : ¬ (29 ≤ k ∧ k ≤ 32)) : (U 435 9 < 43 ∨ 43 < U 435 9) ∧ (U 435 9 < 45 ∨ 45 < U 435 9) ∧ (U 435 9 < 42 ∨ 42 < U 435 9) ∧ (U 435 9 < 47 ∨ 47 < U 435 9) ∧ 0 ≤ U 435 9 ∧ U 435 9 ≤ 62 := by
  have tt := T.tt
  unfold Tt sgT at tt
  omega
theorem y_between_no (F : Fix z) (T : MT U K b p k e v) (hk : ¬ (29 ≤ k ∧ k ≤ 32)) (hp : U 435 16 = q) (p2 : 0 ≤ q ∧ q ≤ 160) (O : OAp U q k0) (no : opn U k0 ≠ 41) : cA m_M_betweenOf [.ref 435] (em U K z) = some (.int (iv (-1)), em U K z) := by
  obtain ⟨n1, n2, n3, n4, n5, n6⟩ := T.noar hk
  have on := y_openNow (K := K) F hp p2 O
  have org := O.rg
  have no' : opn U k0 < 41 ∨ 41 < opn U k0 := by omega
  generalize opn U k0 = o at *
  generalize ht : U 435 9 = t at *
  simp (disch := first | decide | omega | (simp (disch := first | decide | omega) only [sv_s, sv_o, ur_s, ur_e, ur_o]; omega)) only [↓reduceIte, iv_add, iv_sub, iv_mul, iv_neg, iv_ltT, iv_ltF, iv_leT, iv_leF, iv_eqT, iv_eqF, iv_div, iv_mod, ↓bnI_s, ↓bnV_s, ↓bnJ_s, ↓bnR_s, rt_e, rt_0, rt_bz, sv_s, sv_o, ur_s, ur_e, ur_o, bz_T, bz_F, nat_eqF, Nat.reduceAdd, ↓q_M_betweenOf, ↓gI_435_9 F, ↓gd_435 F, il_0, il_1, il_6, il_7, il_8, il_9, il_11, il_21, il_22, il_27, il_41, il_42, il_43, il_45, il_47, il_97, il_100, il_110, il_111, il_114, ht, on]
theorem y_between_cmp (F : Fix z) (T : MT U K b p k e v) (hk : ¬ (29 ≤ k ∧ k ≤ 32)) (hp : U 435 16 = q) (p2 : 0 ≤ q ∧ q ≤ 160) (O : OAp U q k0) (o41 : opn U k0 = 41) (C : ICp U q k1) (nc : ¬ (k1 ≠ -1 ∧ U 440 k1 ≤ 19)) : cA m_M_betweenOf [.ref 435] (em U K z) = some (.int (iv (cmO k)), em U K z) := by
  obtain ⟨n1, n2, n3, n4, n5, n6⟩ := T.noar hk
  have on := y_openNow (K := K) F hp p2 O
  have ic := y_isCompared (K := K) F hp p2 C
  have co := y_compareOf (K := K) F T
  rw [o41] at on
  rw [bz_F nc] at ic
  generalize ht : U 435 9 = t at *
  simp (disch := first | decide | omega | (simp (disch := first | decide | omega) only [sv_s, sv_o, ur_s, ur_e, ur_o]; omega)) only [↓reduceIte, iv_add, iv_sub, iv_mul, iv_neg, iv_ltT, iv_ltF, iv_leT, iv_leF, iv_eqT, iv_eqF, iv_div, iv_mod, ↓bnI_s, ↓bnV_s, ↓bnJ_s, ↓bnR_s, rt_e, rt_0, rt_bz, sv_s, sv_o, ur_s, ur_e, ur_o, bz_T, bz_F, nat_eqF, Nat.reduceAdd, ↓q_M_betweenOf, ↓gI_435_9 F, ↓gd_435 F, il_0, il_1, il_6, il_7, il_8, il_9, il_11, il_21, il_22, il_27, il_41, il_42, il_43, il_45, il_47, il_97, il_100, il_110, il_111, il_114, ht, on, ic, co]
theorem y_between_and (F : Fix z) (T : MT U K b p k e v) (hk : ¬ (29 ≤ k ∧ k ≤ 32)) (hp : U 435 16 = q) (p2 : 0 ≤ q ∧ q ≤ 160) (O : OAp U q k0) (o41 : opn U k0 = 41) (C : ICp U q k1) (c : k1 ≠ -1 ∧ U 440 k1 ≤ 19) : cA m_M_betweenOf [.ref 435] (em U K z) = some (.int (iv (if k = 23 then 21 else if k = 22 then 22 else -1)), em U K z) := by
  obtain ⟨n1, n2, n3, n4, n5, n6⟩ := T.noar hk
  have on := y_openNow (K := K) F hp p2 O
  have ic := y_isCompared (K := K) F hp p2 C
  have w23 := y_isWord (z := z) F T (i := 23) (by decide) (by decide)
  have w22 := y_isWord (z := z) F T (i := 22) (by decide) (by decide)
  rw [o41] at on
  rw [bz_T c] at ic
  generalize ht : U 435 9 = t at *
  by_cases h : k = 23
  · rw [if_pos h]
    rw [bz_T (by omega)] at w23
    simp (disch := first | decide | omega | (simp (disch := first | decide | omega) only [sv_s, sv_o, ur_s, ur_e, ur_o]; omega)) only [↓reduceIte, iv_add, iv_sub, iv_mul, iv_neg, iv_ltT, iv_ltF, iv_leT, iv_leF, iv_eqT, iv_eqF, iv_div, iv_mod, ↓bnI_s, ↓bnV_s, ↓bnJ_s, ↓bnR_s, rt_e, rt_0, rt_bz, sv_s, sv_o, ur_s, ur_e, ur_o, bz_T, bz_F, nat_eqF, Nat.reduceAdd, ↓q_M_betweenOf, ↓gI_435_9 F, ↓gd_435 F, il_0, il_1, il_6, il_7, il_8, il_9, il_11, il_21, il_22, il_27, il_41, il_42, il_43, il_45, il_47, il_97, il_100, il_110, il_111, il_114, ht, on, ic, lw_23, w23]
  · rw [if_neg h]
    rw [bz_F (by omega)] at w23
    by_cases h2 : k = 22
    · rw [if_pos h2]
      rw [bz_T (by omega)] at w22
      simp (disch := first | decide | omega | (simp (disch := first | decide | omega) only [sv_s, sv_o, ur_s, ur_e, ur_o]; omega)) only [↓reduceIte, iv_add, iv_sub, iv_mul, iv_neg, iv_ltT, iv_ltF, iv_leT, iv_leF, iv_eqT, iv_eqF, iv_div, iv_mod, ↓bnI_s, ↓bnV_s, ↓bnJ_s, ↓bnR_s, rt_e, rt_0, rt_bz, sv_s, sv_o, ur_s, ur_e, ur_o, bz_T, bz_F, nat_eqF, Nat.reduceAdd, ↓q_M_betweenOf, ↓gI_435_9 F, ↓gd_435 F, il_0, il_1, il_6, il_7, il_8, il_9, il_11, il_21, il_22, il_27, il_41, il_42, il_43, il_45, il_47, il_97, il_100, il_110, il_111, il_114, ht, on, ic, lw_23, w23, lw_22, w22]
    · rw [if_neg h2]
      rw [bz_F (by omega)] at w22
      simp (disch := first | decide | omega | (simp (disch := first | decide | omega) only [sv_s, sv_o, ur_s, ur_e, ur_o]; omega)) only [↓reduceIte, iv_add, iv_sub, iv_mul, iv_neg, iv_ltT, iv_ltF, iv_leT, iv_leF, iv_eqT, iv_eqF, iv_div, iv_mod, ↓bnI_s, ↓bnV_s, ↓bnJ_s, ↓bnR_s, rt_e, rt_0, rt_bz, sv_s, sv_o, ur_s, ur_e, ur_o, bz_T, bz_F, nat_eqF, Nat.reduceAdd, ↓q_M_betweenOf, ↓gI_435_9 F, ↓gd_435 F, il_0, il_1, il_6, il_7, il_8, il_9, il_11, il_21, il_22, il_27, il_41, il_42, il_43, il_45, il_47, il_97, il_100, il_110, il_111, il_114, ht, on, ic, lw_23, w23, lw_22, w22]
theorem y_part40 (F : Fix z) (T : MT U K b p k e v) : cA m_M_partOf [.ref 435, .int (iv 40)] (em U K z) = some (.int (iv (if k = 34 then 0 else -1)), em U K z) := by
  have tt := T.tt
  have tr := tt.rg.2
  by_cases h : k = 34
  · rw [if_pos h]
    have t41 : U 435 9 = 41 := by unfold Tt sgT at tt; omega
    simp (disch := first | decide | omega | (simp (disch := first | decide | omega) only [sv_s, sv_o, ur_s, ur_e, ur_o]; omega)) only [↓reduceIte, iv_add, iv_sub, iv_mul, iv_neg, iv_ltT, iv_ltF, iv_leT, iv_leF, iv_eqT, iv_eqF, iv_div, iv_mod, ↓bnI_s, ↓bnV_s, ↓bnJ_s, ↓bnR_s, rt_e, rt_0, rt_bz, sv_s, sv_o, ur_s, ur_e, ur_o, bz_T, bz_F, nat_eqF, Nat.reduceAdd, ↓q_M_partOf, ↓gI_435_9 F, ↓gd_435 F, il_0, il_1, il_9, il_11, il_27, il_40, il_41, il_42, il_43, il_100, il_101, il_104, il_108, il_110, il_115, il_116, t41]
  · rw [if_neg h]
    have t41 : U 435 9 < 41 ∨ 41 < U 435 9 := by unfold Tt sgT at tt; omega
    generalize ht : U 435 9 = t at *
    clear tt
    simp (disch := first | decide | omega | (simp (disch := first | decide | omega) only [sv_s, sv_o, ur_s, ur_e, ur_o]; omega)) only [↓reduceIte, iv_add, iv_sub, iv_mul, iv_neg, iv_ltT, iv_ltF, iv_leT, iv_leF, iv_eqT, iv_eqF, iv_div, iv_mod, ↓bnI_s, ↓bnV_s, ↓bnJ_s, ↓bnR_s, rt_e, rt_0, rt_bz, sv_s, sv_o, ur_s, ur_e, ur_o, bz_T, bz_F, nat_eqF, Nat.reduceAdd, ↓q_M_partOf, ↓gI_435_9 F, ↓gd_435 F, il_0, il_1, il_9, il_11, il_27, il_40, il_41, il_42, il_43, il_100, il_101, il_104, il_108, il_110, il_115, il_116, ht]
theorem y_part41 (F : Fix z) (T : MT U K b p k e v) (hp : U 435 16 = q) (p2 : 0 ≤ q ∧ q ≤ 160) (C : ICp U q k1) : cA m_M_partOf [.ref 435, .int (iv 41)] (em U K z) = some (.int (iv (if k = 19 ∧ (k1 ≠ -1 ∧ U 440 k1 ≤ 19) then 42 else -1)), em U K z) := by
  have ic := y_isCompared (K := K) F hp p2 C
  have w19 := y_isWord (z := z) F T (i := 19) (by decide) (by decide)
  by_cases h : k = 19
  · rw [bz_T (by omega)] at w19
    by_cases c : k1 ≠ -1 ∧ U 440 k1 ≤ 19
    · rw [if_pos ⟨h, c⟩]
      rw [bz_T c] at ic
      simp (disch := first | decide | omega | (simp (disch := first | decide | omega) only [sv_s, sv_o, ur_s, ur_e, ur_o]; omega)) only [↓reduceIte, iv_add, iv_sub, iv_mul, iv_neg, iv_ltT, iv_ltF, iv_leT, iv_leF, iv_eqT, iv_eqF, iv_div, iv_mod, ↓bnI_s, ↓bnV_s, ↓bnJ_s, ↓bnR_s, rt_e, rt_0, rt_bz, sv_s, sv_o, ur_s, ur_e, ur_o, bz_T, bz_F, nat_eqF, Nat.reduceAdd, ↓q_M_partOf, ↓gI_435_9 F, ↓gd_435 F, il_0, il_1, il_9, il_11, il_27, il_40, il_41, il_42, il_43, il_100, il_101, il_104, il_108, il_110, il_115, il_116, lw_19, w19, ic]
    · rw [if_neg (fun w => c w.2)]
      rw [bz_F c] at ic
      simp (disch := first | decide | omega | (simp (disch := first | decide | omega) only [sv_s, sv_o, ur_s, ur_e, ur_o]; omega)) only [↓reduceIte, iv_add, iv_sub, iv_mul, iv_neg, iv_ltT, iv_ltF, iv_leT, iv_leF, iv_eqT, iv_eqF, iv_div, iv_mod, ↓bnI_s, ↓bnV_s, ↓bnJ_s, ↓bnR_s, rt_e, rt_0, rt_bz, sv_s, sv_o, ur_s, ur_e, ur_o, bz_T, bz_F, nat_eqF, Nat.reduceAdd, ↓q_M_partOf, ↓gI_435_9 F, ↓gd_435 F, il_0, il_1, il_9, il_11, il_27, il_40, il_41, il_42, il_43, il_100, il_101, il_104, il_108, il_110, il_115, il_116, lw_19, w19, ic]
  · rw [bz_F (by omega)] at w19
    rw [if_neg (fun w => h w.1)]
    simp (disch := first | decide | omega | (simp (disch := first | decide | omega) only [sv_s, sv_o, ur_s, ur_e, ur_o]; omega)) only [↓reduceIte, iv_add, iv_sub, iv_mul, iv_neg, iv_ltT, iv_ltF, iv_leT, iv_leF, iv_eqT, iv_eqF, iv_div, iv_mod, ↓bnI_s, ↓bnV_s, ↓bnJ_s, ↓bnR_s, rt_e, rt_0, rt_bz, sv_s, sv_o, ur_s, ur_e, ur_o, bz_T, bz_F, nat_eqF, Nat.reduceAdd, ↓q_M_partOf, ↓gI_435_9 F, ↓gd_435 F, il_0, il_1, il_9, il_11, il_27, il_40, il_41, il_42, il_43, il_100, il_101, il_104, il_108, il_110, il_115, il_116, lw_19, w19]
theorem y_part42 (F : Fix z) (T : MT U K b p k e v) : cA m_M_partOf [.ref 435, .int (iv 42)] (em U K z) = some (.int (iv (if k = 20 then 43 else -1)), em U K z) := by
  have w := y_isWord (z := z) F T (i := 20) (by decide) (by decide)
  by_cases h : k = 20
  · rw [bz_T (by omega)] at w
    rw [if_pos h]
    simp (disch := first | decide | omega | (simp (disch := first | decide | omega) only [sv_s, sv_o, ur_s, ur_e, ur_o]; omega)) only [↓reduceIte, iv_add, iv_sub, iv_mul, iv_neg, iv_ltT, iv_ltF, iv_leT, iv_leF, iv_eqT, iv_eqF, iv_div, iv_mod, ↓bnI_s, ↓bnV_s, ↓bnJ_s, ↓bnR_s, rt_e, rt_0, rt_bz, sv_s, sv_o, ur_s, ur_e, ur_o, bz_T, bz_F, nat_eqF, Nat.reduceAdd, ↓q_M_partOf, ↓gI_435_9 F, ↓gd_435 F, il_0, il_1, il_9, il_11, il_27, il_40, il_41, il_42, il_43, il_100, il_101, il_104, il_108, il_110, il_115, il_116, lw_20, w]
  · rw [bz_F (by omega)] at w
    rw [if_neg h]
    simp (disch := first | decide | omega | (simp (disch := first | decide | omega) only [sv_s, sv_o, ur_s, ur_e, ur_o]; omega)) only [↓reduceIte, iv_add, iv_sub, iv_mul, iv_neg, iv_ltT, iv_ltF, iv_leT, iv_leF, iv_eqT, iv_eqF, iv_div, iv_mod, ↓bnI_s, ↓bnV_s, ↓bnJ_s, ↓bnR_s, rt_e, rt_0, rt_bz, sv_s, sv_o, ur_s, ur_e, ur_o, bz_T, bz_F, nat_eqF, Nat.reduceAdd, ↓q_M_partOf, ↓gI_435_9 F, ↓gd_435 F, il_0, il_1, il_9, il_11, il_27, il_40, il_41, il_42, il_43, il_100, il_101, il_104, il_108, il_110, il_115, il_116, lw_20, w]
theorem y_part43 (F : Fix z) (T : MT U K b p k e v) : cA m_M_partOf [.ref 435, .int (iv 43)] (em U K z) = some (.int (iv (if k = 21 then 0 else -1)), em U K z) := by
  have w := y_isWord (z := z) F T (i := 21) (by decide) (by decide)
  by_cases h : k = 21
  · rw [bz_T (by omega)] at w
    rw [if_pos h]
    simp (disch := first | decide | omega | (simp (disch := first | decide | omega) only [sv_s, sv_o, ur_s, ur_e, ur_o]; omega)) only [↓reduceIte, iv_add, iv_sub, iv_mul, iv_neg, iv_ltT, iv_ltF, iv_leT, iv_leF, iv_eqT, iv_eqF, iv_div, iv_mod, ↓bnI_s, ↓bnV_s, ↓bnJ_s, ↓bnR_s, rt_e, rt_0, rt_bz, sv_s, sv_o, ur_s, ur_e, ur_o, bz_T, bz_F, nat_eqF, Nat.reduceAdd, ↓q_M_partOf, ↓gI_435_9 F, ↓gd_435 F, il_0, il_1, il_9, il_11, il_27, il_40, il_41, il_42, il_43, il_100, il_101, il_104, il_108, il_110, il_115, il_116, lw_21, w]
  · rw [bz_F (by omega)] at w
    rw [if_neg h]
    simp (disch := first | decide | omega | (simp (disch := first | decide | omega) only [sv_s, sv_o, ur_s, ur_e, ur_o]; omega)) only [↓reduceIte, iv_add, iv_sub, iv_mul, iv_neg, iv_ltT, iv_ltF, iv_leT, iv_leF, iv_eqT, iv_eqF, iv_div, iv_mod, ↓bnI_s, ↓bnV_s, ↓bnJ_s, ↓bnR_s, rt_e, rt_0, rt_bz, sv_s, sv_o, ur_s, ur_e, ur_o, bz_T, bz_F, nat_eqF, Nat.reduceAdd, ↓q_M_partOf, ↓gI_435_9 F, ↓gd_435 F, il_0, il_1, il_9, il_11, il_27, il_40, il_41, il_42, il_43, il_100, il_101, il_104, il_108, il_110, il_115, il_116, lw_21, w]
theorem y_partn (F : Fix z) : cA m_M_partOf [.ref 435, .int (iv (-1))] (em U K z) = some (.int (iv (-1)), em U K z) := by
  simp (disch := first | decide | omega | (simp (disch := first | decide | omega) only [sv_s, sv_o, ur_s, ur_e, ur_o]; omega)) only [↓reduceIte, iv_add, iv_sub, iv_mul, iv_neg, iv_ltT, iv_ltF, iv_leT, iv_leF, iv_eqT, iv_eqF, iv_div, iv_mod, ↓bnI_s, ↓bnV_s, ↓bnJ_s, ↓bnR_s, rt_e, rt_0, rt_bz, sv_s, sv_o, ur_s, ur_e, ur_o, bz_T, bz_F, nat_eqF, Nat.reduceAdd, ↓q_M_partOf, ↓gI_435_9 F, ↓gd_435 F, il_0, il_1, il_9, il_11, il_27, il_40, il_41, il_42, il_43, il_100, il_101, il_104, il_108, il_110, il_115, il_116]
/-- whether something is asked from here on -/
def AH (U : Vm) (q k0 : Int) : Prop := opn U k0 = 41 ∧ (40 ≤ U 440 (q - 1) ∨ (20 ≤ U 440 (q - 1) ∧ U 440 (q - 1) ≤ 22))
theorem y_ahT (F : Fix z) (hp : U 435 16 = q) (p2 : 0 < q ∧ q ≤ 160) (O : OAp U q k0) (tr : 0 ≤ U 440 (q - 1) ∧ U 440 (q - 1) ≤ 43) (h : AH U q k0) : cA m_M_isAskAhead [.ref 435] (em U K z) = some (.int (iv 1), em U K z) := by
  obtain ⟨h1, h2⟩ := h
  have on := y_openNow (K := K) F hp (by omega) O
  rw [h1] at on
  have rk1 := y_rank (h := em U K z) tr
  have r1 : 20 ≤ U 440 (q - 1) ∧ U 440 (q - 1) ≤ 22 → 1 ≤ rk (U 440 (q - 1)) ∧ rk (U 440 (q - 1)) ≤ 3 := fun x => by unfold rk; repeat' split; all_goals omega
  have is := y_isIn (v := rk (U 440 (q - 1))) (lo := 1) (hi := 3) (h := em U K z) (by have := rk_rg (U 440 (q - 1)); omega)
  rcases h2 with h2 | h2
  · generalize ho : U 440 (q - 1) = o at *
    clear is rk1
    simp (disch := first | decide | omega | (simp (disch := first | decide | omega) only [sv_s, sv_o, ur_s, ur_e, ur_o]; omega)) only [↓reduceIte, iv_add, iv_sub, iv_mul, iv_neg, iv_ltT, iv_ltF, iv_leT, iv_leF, iv_eqT, iv_eqF, iv_div, iv_mod, ↓bnI_s, ↓bnV_s, ↓bnJ_s, ↓bnR_s, rt_e, rt_0, rt_bz, sv_s, sv_o, ur_s, ur_e, ur_o, bz_T, bz_F, nat_eqF, Nat.reduceAdd, ↓q_M_isAskAhead, ↓gR_435_15 F, ↓gI_435_16 F, ↓lI_436 F, ↓lI_437 F, ↓lI_438 F, ↓lI_439 F, ↓lI_440 F, ↓lI_441 F, ↓lI_443 F, ↓lI_444 F, ↓lI_445 F, ↓lI_446 F, ↓lI_447 F, ↓lI_448 F, ↓lI_449 F, ↓lI_450 F, ↓gd_435 F, il_0, il_1, il_3, il_11, il_15, il_16, il_27, il_40, il_41, hp, on, ho]
  · have r2 := r1 h2
    rw [bz_T r2] at is
    generalize ho : U 440 (q - 1) = o at *
    generalize rk o = r at *
    simp (disch := first | decide | omega | (simp (disch := first | decide | omega) only [sv_s, sv_o, ur_s, ur_e, ur_o]; omega)) only [↓reduceIte, iv_add, iv_sub, iv_mul, iv_neg, iv_ltT, iv_ltF, iv_leT, iv_leF, iv_eqT, iv_eqF, iv_div, iv_mod, ↓bnI_s, ↓bnV_s, ↓bnJ_s, ↓bnR_s, rt_e, rt_0, rt_bz, sv_s, sv_o, ur_s, ur_e, ur_o, bz_T, bz_F, nat_eqF, Nat.reduceAdd, ↓q_M_isAskAhead, ↓gR_435_15 F, ↓gI_435_16 F, ↓lI_436 F, ↓lI_437 F, ↓lI_438 F, ↓lI_439 F, ↓lI_440 F, ↓lI_441 F, ↓lI_443 F, ↓lI_444 F, ↓lI_445 F, ↓lI_446 F, ↓lI_447 F, ↓lI_448 F, ↓lI_449 F, ↓lI_450 F, ↓gd_435 F, il_0, il_1, il_3, il_11, il_15, il_16, il_27, il_40, il_41, hp, on, ho, rk1, is]
theorem y_ahF (F : Fix z) (hp : U 435 16 = q) (p2 : 0 ≤ q ∧ q ≤ 160) (O : OAp U q k0) (tr : opn U k0 = 41 → 0 < q ∧ 0 ≤ U 440 (q - 1) ∧ U 440 (q - 1) ≤ 43) (h : ¬ AH U q k0) : cA m_M_isAskAhead [.ref 435] (em U K z) = some (.int (iv 0), em U K z) := by
  have on := y_openNow (K := K) F hp p2 O
  have org := O.rg
  by_cases h1 : opn U k0 = 41
  · have t := tr h1
    have h2 : ¬ (40 ≤ U 440 (q - 1) ∨ (20 ≤ U 440 (q - 1) ∧ U 440 (q - 1) ≤ 22)) := fun w => h ⟨h1, w⟩
    have rk1 := y_rank (o := U 440 (q - 1)) (h := em U K z) t.2
    have rr := rk_rg (U 440 (q - 1))
    have is := y_isIn (v := rk (U 440 (q - 1))) (lo := 1) (hi := 3) (h := em U K z) (by omega)
    have nr : ¬ (1 ≤ rk (U 440 (q - 1)) ∧ rk (U 440 (q - 1)) ≤ 3) := by unfold rk; repeat' split; all_goals omega
    rw [bz_F nr] at is
    rw [h1] at on
    generalize ho : U 440 (q - 1) = o at *
    generalize rk o = r at *
    have o40 : o < 40 := by omega
    clear nr h2
    simp (disch := first | decide | omega | (simp (disch := first | decide | omega) only [sv_s, sv_o, ur_s, ur_e, ur_o]; omega)) only [↓reduceIte, iv_add, iv_sub, iv_mul, iv_neg, iv_ltT, iv_ltF, iv_leT, iv_leF, iv_eqT, iv_eqF, iv_div, iv_mod, ↓bnI_s, ↓bnV_s, ↓bnJ_s, ↓bnR_s, rt_e, rt_0, rt_bz, sv_s, sv_o, ur_s, ur_e, ur_o, bz_T, bz_F, nat_eqF, Nat.reduceAdd, ↓q_M_isAskAhead, ↓gR_435_15 F, ↓gI_435_16 F, ↓lI_436 F, ↓lI_437 F, ↓lI_438 F, ↓lI_439 F, ↓lI_440 F, ↓lI_441 F, ↓lI_443 F, ↓lI_444 F, ↓lI_445 F, ↓lI_446 F, ↓lI_447 F, ↓lI_448 F, ↓lI_449 F, ↓lI_450 F, ↓gd_435 F, il_0, il_1, il_3, il_11, il_15, il_16, il_27, il_40, il_41, hp, on, ho, rk1, is]
  · have h1' : opn U k0 < 41 ∨ 41 < opn U k0 := by omega
    generalize opn U k0 = o at *
    clear tr
    simp (disch := first | decide | omega | (simp (disch := first | decide | omega) only [sv_s, sv_o, ur_s, ur_e, ur_o]; omega)) only [↓reduceIte, iv_add, iv_sub, iv_mul, iv_neg, iv_ltT, iv_ltF, iv_leT, iv_leF, iv_eqT, iv_eqF, iv_div, iv_mod, ↓bnI_s, ↓bnV_s, ↓bnJ_s, ↓bnR_s, rt_e, rt_0, rt_bz, sv_s, sv_o, ur_s, ur_e, ur_o, bz_T, bz_F, nat_eqF, Nat.reduceAdd, ↓q_M_isAskAhead, ↓gR_435_15 F, ↓gI_435_16 F, ↓lI_436 F, ↓lI_437 F, ↓lI_438 F, ↓lI_439 F, ↓lI_440 F, ↓lI_441 F, ↓lI_443 F, ↓lI_444 F, ↓lI_445 F, ↓lI_446 F, ↓lI_447 F, ↓lI_448 F, ↓lI_449 F, ↓lI_450 F, ↓gd_435 F, il_0, il_1, il_3, il_11, il_15, il_16, il_27, il_40, il_41, on]
/-- one more waits -/
def pushM (U : Vm) (o : Int) : Vm := sv (sv U 440 (U 435 16) o) 435 16 (U 435 16 + 1)
theorem y_opened8 (F : Fix z) {o : Int} (h : U 435 17 = 8) : cA m_M_opened [.ref 435, .int (iv o)] (em U K z) = some (.int (iv 3), em U K z) := by
  simp (disch := first | decide | omega | (simp (disch := first | decide | omega) only [sv_s, sv_o, ur_s, ur_e, ur_o]; omega)) only [↓reduceIte, iv_add, iv_sub, iv_mul, iv_neg, iv_ltT, iv_ltF, iv_leT, iv_leF, iv_eqT, iv_eqF, iv_div, iv_mod, ↓bnI_s, ↓bnV_s, ↓bnJ_s, ↓bnR_s, rt_e, rt_0, rt_bz, sv_s, sv_o, ur_s, ur_e, ur_o, bz_T, bz_F, nat_eqF, Nat.reduceAdd, ↓q_M_opened, ↓gI_435_17 F, ↓gR_435_15 F, ↓gI_435_16 F, ↓pI_435_17 F, ↓pI_435_16 F, ↓sI_436 F, ↓sI_437 F, ↓sI_438 F, ↓sI_439 F, ↓sI_440 F, ↓sI_441 F, ↓sI_443 F, ↓sI_444 F, ↓sI_445 F, ↓sI_446 F, ↓sI_447 F, ↓sI_448 F, ↓sI_449 F, ↓sI_450 F, ↓gd_435 F, il_0, il_1, il_3, il_8, il_11, il_15, il_16, il_17, il_27, h]
theorem y_opened (F : Fix z) {o : Int} (h : 0 ≤ U 435 17 ∧ U 435 17 < 8) (hp : 0 ≤ U 435 16 ∧ U 435 16 < 160) {U2 K2 : Vm} (nx : cA m_M_nextToken [.ref 435] (em (pushM (sv U 435 17 (U 435 17 + 1)) o) K z) = some (.null, em U2 K2 z)) : cA m_M_opened [.ref 435, .int (iv o)] (em U K z) = some (.int (iv 0), em U2 K2 z) := by
  have e : pushM (sv U 435 17 (U 435 17 + 1)) o = sv (sv (sv U 435 17 (U 435 17 + 1)) 440 (U 435 16) o) 435 16 (U 435 16 + 1) := by unfold pushM; simp (disch := first | decide | omega | (simp (disch := first | decide | omega) only [sv_s, sv_o, ur_s, ur_e, ur_o]; omega)) only [↓reduceIte, iv_add, iv_sub, iv_mul, iv_neg, iv_ltT, iv_ltF, iv_leT, iv_leF, iv_eqT, iv_eqF, iv_div, iv_mod, ↓bnI_s, ↓bnV_s, ↓bnJ_s, ↓bnR_s, rt_e, rt_0, rt_bz, sv_s, sv_o, ur_s, ur_e, ur_o, bz_T, bz_F, nat_eqF, Nat.reduceAdd]
  rw [e] at nx
  generalize hd : U 435 17 = d at *
  generalize hq : U 435 16 = q at *
  simp (disch := first | decide | omega | (simp (disch := first | decide | omega) only [sv_s, sv_o, ur_s, ur_e, ur_o]; omega)) only [↓reduceIte, iv_add, iv_sub, iv_mul, iv_neg, iv_ltT, iv_ltF, iv_leT, iv_leF, iv_eqT, iv_eqF, iv_div, iv_mod, ↓bnI_s, ↓bnV_s, ↓bnJ_s, ↓bnR_s, rt_e, rt_0, rt_bz, sv_s, sv_o, ur_s, ur_e, ur_o, bz_T, bz_F, nat_eqF, Nat.reduceAdd, ↓q_M_opened, ↓gI_435_17 F, ↓gR_435_15 F, ↓gI_435_16 F, ↓pI_435_17 F, ↓pI_435_16 F, ↓sI_436 F, ↓sI_437 F, ↓sI_438 F, ↓sI_439 F, ↓sI_440 F, ↓sI_441 F, ↓sI_443 F, ↓sI_444 F, ↓sI_445 F, ↓sI_446 F, ↓sI_447 F, ↓sI_448 F, ↓sI_449 F, ↓sI_450 F, ↓gd_435 F, il_0, il_1, il_3, il_8, il_11, il_15, il_16, il_17, il_27, hd, hq, nx]
end
