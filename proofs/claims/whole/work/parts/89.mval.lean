/-! what a law's code means: values, as the model reckons them -/
theorem y_clip {x : Int} {h : Mem} (hx : -10000000000000 ≤ x ∧ x ≤ 10000000000000) : cA m_M_clip [.long (jv x)] h = some (.long (jv (cpV x)), h) := by
  unfold cpV
  by_cases h1 : 1000000 < x
  · rw [if_pos h1]
    simp (disch := first | decide | omega | (simp (disch := first | decide | omega) only [sv_s, sv_o, ur_s, ur_e, ur_o]; omega)) only [↓reduceIte, iv_add, iv_sub, iv_mul, iv_neg, iv_ltT, iv_ltF, iv_leT, iv_leF, iv_eqT, iv_eqF, iv_div, iv_mod, ↓bnI_s, ↓bnV_s, ↓bnJ_s, ↓bnR_s, rt_e, rt_0, rt_bz, sv_s, sv_o, ur_s, ur_e, ur_o, bz_T, bz_F, nat_eqF, Nat.reduceAdd, ↓q_M_clip, il_0, il_1, il_1000000, jl_1000000, jv_neg, jc_gt (a := x) (b := 1000000)]
  · rw [if_neg h1]
    by_cases h2 : x < -1000000
    · rw [if_pos h2]
      simp (disch := first | decide | omega | (simp (disch := first | decide | omega) only [sv_s, sv_o, ur_s, ur_e, ur_o]; omega)) only [↓reduceIte, iv_add, iv_sub, iv_mul, iv_neg, iv_ltT, iv_ltF, iv_leT, iv_leF, iv_eqT, iv_eqF, iv_div, iv_mod, ↓bnI_s, ↓bnV_s, ↓bnJ_s, ↓bnR_s, rt_e, rt_0, rt_bz, sv_s, sv_o, ur_s, ur_e, ur_o, bz_T, bz_F, nat_eqF, Nat.reduceAdd, ↓q_M_clip, il_0, il_1, il_1000000, jl_1000000, jv_neg, jc_lt (a := x) (b := 1000000), jc_lt (a := x) (b := -1000000)]
    · rw [if_neg h2]
      by_cases h3 : x = 1000000
      · simp (disch := first | decide | omega | (simp (disch := first | decide | omega) only [sv_s, sv_o, ur_s, ur_e, ur_o]; omega)) only [↓reduceIte, iv_add, iv_sub, iv_mul, iv_neg, iv_ltT, iv_ltF, iv_leT, iv_leF, iv_eqT, iv_eqF, iv_div, iv_mod, ↓bnI_s, ↓bnV_s, ↓bnJ_s, ↓bnR_s, rt_e, rt_0, rt_bz, sv_s, sv_o, ur_s, ur_e, ur_o, bz_T, bz_F, nat_eqF, Nat.reduceAdd, ↓q_M_clip, il_0, il_1, il_1000000, jl_1000000, jv_neg, jc_eq (a := x) (b := 1000000), jc_gt (a := x) (b := -1000000)]
      · by_cases h4 : x = -1000000
        · simp (disch := first | decide | omega | (simp (disch := first | decide | omega) only [sv_s, sv_o, ur_s, ur_e, ur_o]; omega)) only [↓reduceIte, iv_add, iv_sub, iv_mul, iv_neg, iv_ltT, iv_ltF, iv_leT, iv_leF, iv_eqT, iv_eqF, iv_div, iv_mod, ↓bnI_s, ↓bnV_s, ↓bnJ_s, ↓bnR_s, rt_e, rt_0, rt_bz, sv_s, sv_o, ur_s, ur_e, ur_o, bz_T, bz_F, nat_eqF, Nat.reduceAdd, ↓q_M_clip, il_0, il_1, il_1000000, jl_1000000, jv_neg, jc_lt (a := x) (b := 1000000), jc_eq (a := x) (b := -1000000)]
        · simp (disch := first | decide | omega | (simp (disch := first | decide | omega) only [sv_s, sv_o, ur_s, ur_e, ur_o]; omega)) only [↓reduceIte, iv_add, iv_sub, iv_mul, iv_neg, iv_ltT, iv_ltF, iv_leT, iv_leF, iv_eqT, iv_eqF, iv_div, iv_mod, ↓bnI_s, ↓bnV_s, ↓bnJ_s, ↓bnR_s, rt_e, rt_0, rt_bz, sv_s, sv_o, ur_s, ur_e, ur_o, bz_T, bz_F, nat_eqF, Nat.reduceAdd, ↓q_M_clip, il_0, il_1, il_1000000, jl_1000000, jv_neg, jc_lt (a := x) (b := 1000000), jc_gt (a := x) (b := -1000000)]
theorem jv_eq0 {y : Int} (h : Bd y) (n : y ≠ 0) : (jv y = 0) = False := by
  refine eq_false fun e => n ?_
  have q := congrArg Int64.toInt e
  rw [jv_toInt (by unfold Bd at h; omega)] at q
  exact q
theorem y_M_two {c x y : Int} {h : Mem} (hx : Bd x) (hy : Bd y) (hc : 29 ≤ c ∧ c ≤ 32) : cA m_M_two [.int (iv (c - 23)), .long (jv x), .long (jv y)] h = some (.long (jv (twV c x y)), h) := by
  have m := mul_b hx hy
  have tb := td_b (y := y) hx
  have hc4 : c = 29 ∨ c = 30 ∨ c = 31 ∨ c = 32 := by omega
  have j0 := fun n => jv_eq0 hy n
  unfold twV
  unfold Bd at hx hy tb
  clear hc
  rcases hc4 with rfl | rfl | rfl | rfl
  · rw [if_pos rfl]
    have e : (29 : Int) - 23 = 6 := rfl
    simp (disch := first | decide | omega | (simp (disch := first | decide | omega) only [sv_s, sv_o, ur_s, ur_e, ur_o]; omega)) only [↓reduceIte, iv_add, iv_sub, iv_mul, iv_neg, iv_ltT, iv_ltF, iv_leT, iv_leF, iv_eqT, iv_eqF, iv_div, iv_mod, ↓bnI_s, ↓bnV_s, ↓bnJ_s, ↓bnR_s, rt_e, rt_0, rt_bz, sv_s, sv_o, ur_s, ur_e, ur_o, bz_T, bz_F, nat_eqF, Nat.reduceAdd, ↓q_M_two, il_0, il_1, il_6, il_7, il_8, e, jv_add, y_clip]
  · rw [if_neg (by decide), if_pos rfl]
    have e : (30 : Int) - 23 = 7 := rfl
    simp (disch := first | decide | omega | (simp (disch := first | decide | omega) only [sv_s, sv_o, ur_s, ur_e, ur_o]; omega)) only [↓reduceIte, iv_add, iv_sub, iv_mul, iv_neg, iv_ltT, iv_ltF, iv_leT, iv_leF, iv_eqT, iv_eqF, iv_div, iv_mod, ↓bnI_s, ↓bnV_s, ↓bnJ_s, ↓bnR_s, rt_e, rt_0, rt_bz, sv_s, sv_o, ur_s, ur_e, ur_o, bz_T, bz_F, nat_eqF, Nat.reduceAdd, ↓q_M_two, il_0, il_1, il_6, il_7, il_8, e, jv_sub, y_clip]
  · rw [if_neg (by decide), if_neg (by decide), if_pos rfl]
    generalize hw : x * y = w at *
    have e : jv x * jv y = jv w := by rw [jv_mul, hw]
    have e2 : (31 : Int) - 23 = 8 := rfl
    simp (disch := first | decide | omega | (simp (disch := first | decide | omega) only [sv_s, sv_o, ur_s, ur_e, ur_o]; omega)) only [↓reduceIte, iv_add, iv_sub, iv_mul, iv_neg, iv_ltT, iv_ltF, iv_leT, iv_leF, iv_eqT, iv_eqF, iv_div, iv_mod, ↓bnI_s, ↓bnV_s, ↓bnJ_s, ↓bnR_s, rt_e, rt_0, rt_bz, sv_s, sv_o, ur_s, ur_e, ur_o, bz_T, bz_F, nat_eqF, Nat.reduceAdd, ↓q_M_two, il_0, il_1, il_6, il_7, il_8, e2, e, y_clip]
  · rw [if_neg (by decide), if_neg (by decide), if_neg (by decide)]
    have e2 : (32 : Int) - 23 = 9 := rfl
    by_cases q : y = 0
    · rw [if_pos q, q]
      simp (disch := first | decide | omega | (simp (disch := first | decide | omega) only [sv_s, sv_o, ur_s, ur_e, ur_o]; omega)) only [↓reduceIte, iv_add, iv_sub, iv_mul, iv_neg, iv_ltT, iv_ltF, iv_leT, iv_leF, iv_eqT, iv_eqF, iv_div, iv_mod, ↓bnI_s, ↓bnV_s, ↓bnJ_s, ↓bnR_s, rt_e, rt_0, rt_bz, sv_s, sv_o, ur_s, ur_e, ur_o, bz_T, bz_F, nat_eqF, Nat.reduceAdd, ↓q_M_two, il_0, il_1, il_6, il_7, il_8, e2, jl_0, jc_eq (a := 0) (b := 0)]
    · rw [if_neg q]
      have j1 := j0 q
      have j2 : lg_cmp (jv y) 0 = iv (if y < 0 then -1 else 1) := by
        by_cases s : y < 0
        · rw [if_pos s, jl_0, jc_lt (by omega)]
        · rw [if_neg s, jl_0, jc_gt (by omega)]
      have j3 : (iv (if y < 0 then -1 else 1) = iv 0) = False := by
        by_cases s : y < 0
        · rw [if_pos s]; exact iv_eqF (by omega)
        · rw [if_neg s]; exact iv_eqF (by omega)
      have cl := y_clip (x := x.tdiv y) (h := h) (by omega)
      have cp : cpV (x.tdiv y) = x.tdiv y := by unfold cpV; rw [if_neg (by omega), if_neg (by omega)]
      rw [cp] at cl
      simp (disch := first | decide | omega | (simp (disch := first | decide | omega) only [sv_s, sv_o, ur_s, ur_e, ur_o]; omega)) only [↓reduceIte, iv_add, iv_sub, iv_mul, iv_neg, iv_ltT, iv_ltF, iv_leT, iv_leF, iv_eqT, iv_eqF, iv_div, iv_mod, ↓bnI_s, ↓bnV_s, ↓bnJ_s, ↓bnR_s, rt_e, rt_0, rt_bz, sv_s, sv_o, ur_s, ur_e, ur_o, bz_T, bz_F, nat_eqF, Nat.reduceAdd, ↓q_M_two, il_0, il_1, il_6, il_7, il_8, e2, j2, j3, j1, jv_tdiv, cl]
theorem y_M_asked {c o x y : Int} {h : Mem} (hx : Bd x) (hy : Bd y) (hc : (c = 25 ∧ o = 10) ∨ (c = 36 ∧ o = 11) ∨ (c = 26 ∧ o = 12) ∨ (c = 37 ∧ o = 13) ∨ (c = 27 ∧ o = 14) ∨ (c = 28 ∧ o = 15)) : cA m_M_isAsked [.int (iv o), .long (jv x), .long (jv y)] h = some (.int (iv (asV c x y)), h) := by
  unfold asV
  unfold Bd at hx hy
  by_cases lt : x < y
  · have cm := jc_lt (a := x) (b := y) (by omega)
    rcases hc with ⟨rfl, rfl⟩ | ⟨rfl, rfl⟩ | ⟨rfl, rfl⟩ | ⟨rfl, rfl⟩ | ⟨rfl, rfl⟩ | ⟨rfl, rfl⟩
    · rw [if_pos rfl, bz_T lt]; simp (disch := first | decide | omega | (simp (disch := first | decide | omega) only [sv_s, sv_o, ur_s, ur_e, ur_o]; omega)) only [↓reduceIte, iv_add, iv_sub, iv_mul, iv_neg, iv_ltT, iv_ltF, iv_leT, iv_leF, iv_eqT, iv_eqF, iv_div, iv_mod, ↓bnI_s, ↓bnV_s, ↓bnJ_s, ↓bnR_s, rt_e, rt_0, rt_bz, sv_s, sv_o, ur_s, ur_e, ur_o, bz_T, bz_F, nat_eqF, Nat.reduceAdd, ↓q_M_isAsked, il_0, il_1, il_10, il_11, il_12, il_13, il_14, cm]
    · rw [if_neg (by decide), if_pos rfl, bz_T (by omega)]; simp (disch := first | decide | omega | (simp (disch := first | decide | omega) only [sv_s, sv_o, ur_s, ur_e, ur_o]; omega)) only [↓reduceIte, iv_add, iv_sub, iv_mul, iv_neg, iv_ltT, iv_ltF, iv_leT, iv_leF, iv_eqT, iv_eqF, iv_div, iv_mod, ↓bnI_s, ↓bnV_s, ↓bnJ_s, ↓bnR_s, rt_e, rt_0, rt_bz, sv_s, sv_o, ur_s, ur_e, ur_o, bz_T, bz_F, nat_eqF, Nat.reduceAdd, ↓q_M_isAsked, il_0, il_1, il_10, il_11, il_12, il_13, il_14, cm]
    · rw [if_neg (by decide), if_neg (by decide), if_pos rfl, bz_F (by omega)]; simp (disch := first | decide | omega | (simp (disch := first | decide | omega) only [sv_s, sv_o, ur_s, ur_e, ur_o]; omega)) only [↓reduceIte, iv_add, iv_sub, iv_mul, iv_neg, iv_ltT, iv_ltF, iv_leT, iv_leF, iv_eqT, iv_eqF, iv_div, iv_mod, ↓bnI_s, ↓bnV_s, ↓bnJ_s, ↓bnR_s, rt_e, rt_0, rt_bz, sv_s, sv_o, ur_s, ur_e, ur_o, bz_T, bz_F, nat_eqF, Nat.reduceAdd, ↓q_M_isAsked, il_0, il_1, il_10, il_11, il_12, il_13, il_14, cm]
    · rw [if_neg (by decide), if_neg (by decide), if_neg (by decide), if_pos rfl, bz_F (by omega)]; simp (disch := first | decide | omega | (simp (disch := first | decide | omega) only [sv_s, sv_o, ur_s, ur_e, ur_o]; omega)) only [↓reduceIte, iv_add, iv_sub, iv_mul, iv_neg, iv_ltT, iv_ltF, iv_leT, iv_leF, iv_eqT, iv_eqF, iv_div, iv_mod, ↓bnI_s, ↓bnV_s, ↓bnJ_s, ↓bnR_s, rt_e, rt_0, rt_bz, sv_s, sv_o, ur_s, ur_e, ur_o, bz_T, bz_F, nat_eqF, Nat.reduceAdd, ↓q_M_isAsked, il_0, il_1, il_10, il_11, il_12, il_13, il_14, cm]
    · rw [if_neg (by decide), if_neg (by decide), if_neg (by decide), if_neg (by decide), if_pos rfl, bz_F (by omega)]; simp (disch := first | decide | omega | (simp (disch := first | decide | omega) only [sv_s, sv_o, ur_s, ur_e, ur_o]; omega)) only [↓reduceIte, iv_add, iv_sub, iv_mul, iv_neg, iv_ltT, iv_ltF, iv_leT, iv_leF, iv_eqT, iv_eqF, iv_div, iv_mod, ↓bnI_s, ↓bnV_s, ↓bnJ_s, ↓bnR_s, rt_e, rt_0, rt_bz, sv_s, sv_o, ur_s, ur_e, ur_o, bz_T, bz_F, nat_eqF, Nat.reduceAdd, ↓q_M_isAsked, il_0, il_1, il_10, il_11, il_12, il_13, il_14, cm]
    · rw [if_neg (by decide), if_neg (by decide), if_neg (by decide), if_neg (by decide), if_neg (by decide), if_pos rfl, bz_T (by omega)]; simp (disch := first | decide | omega | (simp (disch := first | decide | omega) only [sv_s, sv_o, ur_s, ur_e, ur_o]; omega)) only [↓reduceIte, iv_add, iv_sub, iv_mul, iv_neg, iv_ltT, iv_ltF, iv_leT, iv_leF, iv_eqT, iv_eqF, iv_div, iv_mod, ↓bnI_s, ↓bnV_s, ↓bnJ_s, ↓bnR_s, rt_e, rt_0, rt_bz, sv_s, sv_o, ur_s, ur_e, ur_o, bz_T, bz_F, nat_eqF, Nat.reduceAdd, ↓q_M_isAsked, il_0, il_1, il_10, il_11, il_12, il_13, il_14, cm]
  · by_cases eq : x = y
    · have cm := jc_eq (a := x) (b := y) eq
      rcases hc with ⟨rfl, rfl⟩ | ⟨rfl, rfl⟩ | ⟨rfl, rfl⟩ | ⟨rfl, rfl⟩ | ⟨rfl, rfl⟩ | ⟨rfl, rfl⟩
      · rw [if_pos rfl, bz_F lt]; simp (disch := first | decide | omega | (simp (disch := first | decide | omega) only [sv_s, sv_o, ur_s, ur_e, ur_o]; omega)) only [↓reduceIte, iv_add, iv_sub, iv_mul, iv_neg, iv_ltT, iv_ltF, iv_leT, iv_leF, iv_eqT, iv_eqF, iv_div, iv_mod, ↓bnI_s, ↓bnV_s, ↓bnJ_s, ↓bnR_s, rt_e, rt_0, rt_bz, sv_s, sv_o, ur_s, ur_e, ur_o, bz_T, bz_F, nat_eqF, Nat.reduceAdd, ↓q_M_isAsked, il_0, il_1, il_10, il_11, il_12, il_13, il_14, cm]
      · rw [if_neg (by decide), if_pos rfl, bz_T (by omega)]; simp (disch := first | decide | omega | (simp (disch := first | decide | omega) only [sv_s, sv_o, ur_s, ur_e, ur_o]; omega)) only [↓reduceIte, iv_add, iv_sub, iv_mul, iv_neg, iv_ltT, iv_ltF, iv_leT, iv_leF, iv_eqT, iv_eqF, iv_div, iv_mod, ↓bnI_s, ↓bnV_s, ↓bnJ_s, ↓bnR_s, rt_e, rt_0, rt_bz, sv_s, sv_o, ur_s, ur_e, ur_o, bz_T, bz_F, nat_eqF, Nat.reduceAdd, ↓q_M_isAsked, il_0, il_1, il_10, il_11, il_12, il_13, il_14, cm]
      · rw [if_neg (by decide), if_neg (by decide), if_pos rfl, bz_F (by omega)]; simp (disch := first | decide | omega | (simp (disch := first | decide | omega) only [sv_s, sv_o, ur_s, ur_e, ur_o]; omega)) only [↓reduceIte, iv_add, iv_sub, iv_mul, iv_neg, iv_ltT, iv_ltF, iv_leT, iv_leF, iv_eqT, iv_eqF, iv_div, iv_mod, ↓bnI_s, ↓bnV_s, ↓bnJ_s, ↓bnR_s, rt_e, rt_0, rt_bz, sv_s, sv_o, ur_s, ur_e, ur_o, bz_T, bz_F, nat_eqF, Nat.reduceAdd, ↓q_M_isAsked, il_0, il_1, il_10, il_11, il_12, il_13, il_14, cm]
      · rw [if_neg (by decide), if_neg (by decide), if_neg (by decide), if_pos rfl, bz_T (by omega)]; simp (disch := first | decide | omega | (simp (disch := first | decide | omega) only [sv_s, sv_o, ur_s, ur_e, ur_o]; omega)) only [↓reduceIte, iv_add, iv_sub, iv_mul, iv_neg, iv_ltT, iv_ltF, iv_leT, iv_leF, iv_eqT, iv_eqF, iv_div, iv_mod, ↓bnI_s, ↓bnV_s, ↓bnJ_s, ↓bnR_s, rt_e, rt_0, rt_bz, sv_s, sv_o, ur_s, ur_e, ur_o, bz_T, bz_F, nat_eqF, Nat.reduceAdd, ↓q_M_isAsked, il_0, il_1, il_10, il_11, il_12, il_13, il_14, cm]
      · rw [if_neg (by decide), if_neg (by decide), if_neg (by decide), if_neg (by decide), if_pos rfl, bz_T eq]; simp (disch := first | decide | omega | (simp (disch := first | decide | omega) only [sv_s, sv_o, ur_s, ur_e, ur_o]; omega)) only [↓reduceIte, iv_add, iv_sub, iv_mul, iv_neg, iv_ltT, iv_ltF, iv_leT, iv_leF, iv_eqT, iv_eqF, iv_div, iv_mod, ↓bnI_s, ↓bnV_s, ↓bnJ_s, ↓bnR_s, rt_e, rt_0, rt_bz, sv_s, sv_o, ur_s, ur_e, ur_o, bz_T, bz_F, nat_eqF, Nat.reduceAdd, ↓q_M_isAsked, il_0, il_1, il_10, il_11, il_12, il_13, il_14, cm]
      · rw [if_neg (by decide), if_neg (by decide), if_neg (by decide), if_neg (by decide), if_neg (by decide), if_pos rfl, bz_F (by omega)]; simp (disch := first | decide | omega | (simp (disch := first | decide | omega) only [sv_s, sv_o, ur_s, ur_e, ur_o]; omega)) only [↓reduceIte, iv_add, iv_sub, iv_mul, iv_neg, iv_ltT, iv_ltF, iv_leT, iv_leF, iv_eqT, iv_eqF, iv_div, iv_mod, ↓bnI_s, ↓bnV_s, ↓bnJ_s, ↓bnR_s, rt_e, rt_0, rt_bz, sv_s, sv_o, ur_s, ur_e, ur_o, bz_T, bz_F, nat_eqF, Nat.reduceAdd, ↓q_M_isAsked, il_0, il_1, il_10, il_11, il_12, il_13, il_14, cm]
    · have cm := jc_gt (a := x) (b := y) (by omega)
      rcases hc with ⟨rfl, rfl⟩ | ⟨rfl, rfl⟩ | ⟨rfl, rfl⟩ | ⟨rfl, rfl⟩ | ⟨rfl, rfl⟩ | ⟨rfl, rfl⟩
      · rw [if_pos rfl, bz_F lt]; simp (disch := first | decide | omega | (simp (disch := first | decide | omega) only [sv_s, sv_o, ur_s, ur_e, ur_o]; omega)) only [↓reduceIte, iv_add, iv_sub, iv_mul, iv_neg, iv_ltT, iv_ltF, iv_leT, iv_leF, iv_eqT, iv_eqF, iv_div, iv_mod, ↓bnI_s, ↓bnV_s, ↓bnJ_s, ↓bnR_s, rt_e, rt_0, rt_bz, sv_s, sv_o, ur_s, ur_e, ur_o, bz_T, bz_F, nat_eqF, Nat.reduceAdd, ↓q_M_isAsked, il_0, il_1, il_10, il_11, il_12, il_13, il_14, cm]
      · rw [if_neg (by decide), if_pos rfl, bz_F (by omega)]; simp (disch := first | decide | omega | (simp (disch := first | decide | omega) only [sv_s, sv_o, ur_s, ur_e, ur_o]; omega)) only [↓reduceIte, iv_add, iv_sub, iv_mul, iv_neg, iv_ltT, iv_ltF, iv_leT, iv_leF, iv_eqT, iv_eqF, iv_div, iv_mod, ↓bnI_s, ↓bnV_s, ↓bnJ_s, ↓bnR_s, rt_e, rt_0, rt_bz, sv_s, sv_o, ur_s, ur_e, ur_o, bz_T, bz_F, nat_eqF, Nat.reduceAdd, ↓q_M_isAsked, il_0, il_1, il_10, il_11, il_12, il_13, il_14, cm]
      · rw [if_neg (by decide), if_neg (by decide), if_pos rfl, bz_T (by omega)]; simp (disch := first | decide | omega | (simp (disch := first | decide | omega) only [sv_s, sv_o, ur_s, ur_e, ur_o]; omega)) only [↓reduceIte, iv_add, iv_sub, iv_mul, iv_neg, iv_ltT, iv_ltF, iv_leT, iv_leF, iv_eqT, iv_eqF, iv_div, iv_mod, ↓bnI_s, ↓bnV_s, ↓bnJ_s, ↓bnR_s, rt_e, rt_0, rt_bz, sv_s, sv_o, ur_s, ur_e, ur_o, bz_T, bz_F, nat_eqF, Nat.reduceAdd, ↓q_M_isAsked, il_0, il_1, il_10, il_11, il_12, il_13, il_14, cm]
      · rw [if_neg (by decide), if_neg (by decide), if_neg (by decide), if_pos rfl, bz_T (by omega)]; simp (disch := first | decide | omega | (simp (disch := first | decide | omega) only [sv_s, sv_o, ur_s, ur_e, ur_o]; omega)) only [↓reduceIte, iv_add, iv_sub, iv_mul, iv_neg, iv_ltT, iv_ltF, iv_leT, iv_leF, iv_eqT, iv_eqF, iv_div, iv_mod, ↓bnI_s, ↓bnV_s, ↓bnJ_s, ↓bnR_s, rt_e, rt_0, rt_bz, sv_s, sv_o, ur_s, ur_e, ur_o, bz_T, bz_F, nat_eqF, Nat.reduceAdd, ↓q_M_isAsked, il_0, il_1, il_10, il_11, il_12, il_13, il_14, cm]
      · rw [if_neg (by decide), if_neg (by decide), if_neg (by decide), if_neg (by decide), if_pos rfl, bz_F (by omega)]; simp (disch := first | decide | omega | (simp (disch := first | decide | omega) only [sv_s, sv_o, ur_s, ur_e, ur_o]; omega)) only [↓reduceIte, iv_add, iv_sub, iv_mul, iv_neg, iv_ltT, iv_ltF, iv_leT, iv_leF, iv_eqT, iv_eqF, iv_div, iv_mod, ↓bnI_s, ↓bnV_s, ↓bnJ_s, ↓bnR_s, rt_e, rt_0, rt_bz, sv_s, sv_o, ur_s, ur_e, ur_o, bz_T, bz_F, nat_eqF, Nat.reduceAdd, ↓q_M_isAsked, il_0, il_1, il_10, il_11, il_12, il_13, il_14, cm]
      · rw [if_neg (by decide), if_neg (by decide), if_neg (by decide), if_neg (by decide), if_neg (by decide), if_pos rfl, bz_T (by omega)]; simp (disch := first | decide | omega | (simp (disch := first | decide | omega) only [sv_s, sv_o, ur_s, ur_e, ur_o]; omega)) only [↓reduceIte, iv_add, iv_sub, iv_mul, iv_neg, iv_ltT, iv_ltF, iv_leT, iv_leF, iv_eqT, iv_eqF, iv_div, iv_mod, ↓bnI_s, ↓bnV_s, ↓bnJ_s, ↓bnR_s, rt_e, rt_0, rt_bz, sv_s, sv_o, ur_s, ur_e, ur_o, bz_T, bz_F, nat_eqF, Nat.reduceAdd, ↓q_M_isAsked, il_0, il_1, il_10, il_11, il_12, il_13, il_14, cm]
theorem y_M_joined {c o x y : Int} {h : Mem} (hx : x = 0 ∨ x = 1) (hy : y = 0 ∨ y = 1) (hc : (c = 23 ∧ o = 21) ∨ (c = 22 ∧ o = 22)) : cA m_M_joined [.int (iv o), .int (iv x), .int (iv y)] h = some (.int (iv (asV c x y)), h) := by
  rcases hc with ⟨rfl, rfl⟩ | ⟨rfl, rfl⟩
  · have e : asV 23 x y = if x = 0 then 0 else if y = 0 then 0 else 1 := by
      rcases hx with rfl | rfl <;> rcases hy with rfl | rfl <;> rfl
    rw [e]
    rcases hx with rfl | rfl
    · rw [if_pos rfl]; simp (disch := first | decide | omega | (simp (disch := first | decide | omega) only [sv_s, sv_o, ur_s, ur_e, ur_o]; omega)) only [↓reduceIte, iv_add, iv_sub, iv_mul, iv_neg, iv_ltT, iv_ltF, iv_leT, iv_leF, iv_eqT, iv_eqF, iv_div, iv_mod, ↓bnI_s, ↓bnV_s, ↓bnJ_s, ↓bnR_s, rt_e, rt_0, rt_bz, sv_s, sv_o, ur_s, ur_e, ur_o, bz_T, bz_F, nat_eqF, Nat.reduceAdd, ↓q_M_joined, il_0, il_1, il_21]
    · rw [if_neg (by decide)]
      rcases hy with rfl | rfl
      · rw [if_pos rfl]; simp (disch := first | decide | omega | (simp (disch := first | decide | omega) only [sv_s, sv_o, ur_s, ur_e, ur_o]; omega)) only [↓reduceIte, iv_add, iv_sub, iv_mul, iv_neg, iv_ltT, iv_ltF, iv_leT, iv_leF, iv_eqT, iv_eqF, iv_div, iv_mod, ↓bnI_s, ↓bnV_s, ↓bnJ_s, ↓bnR_s, rt_e, rt_0, rt_bz, sv_s, sv_o, ur_s, ur_e, ur_o, bz_T, bz_F, nat_eqF, Nat.reduceAdd, ↓q_M_joined, il_0, il_1, il_21]
      · rw [if_neg (by decide)]; simp (disch := first | decide | omega | (simp (disch := first | decide | omega) only [sv_s, sv_o, ur_s, ur_e, ur_o]; omega)) only [↓reduceIte, iv_add, iv_sub, iv_mul, iv_neg, iv_ltT, iv_ltF, iv_leT, iv_leF, iv_eqT, iv_eqF, iv_div, iv_mod, ↓bnI_s, ↓bnV_s, ↓bnJ_s, ↓bnR_s, rt_e, rt_0, rt_bz, sv_s, sv_o, ur_s, ur_e, ur_o, bz_T, bz_F, nat_eqF, Nat.reduceAdd, ↓q_M_joined, il_0, il_1, il_21]
  · have e : asV 22 x y = if x = 0 then (if y = 0 then 0 else 1) else 1 := by
      rcases hx with rfl | rfl <;> rcases hy with rfl | rfl <;> rfl
    rw [e]
    rcases hx with rfl | rfl
    · rw [if_pos rfl]
      rcases hy with rfl | rfl
      · rw [if_pos rfl]; simp (disch := first | decide | omega | (simp (disch := first | decide | omega) only [sv_s, sv_o, ur_s, ur_e, ur_o]; omega)) only [↓reduceIte, iv_add, iv_sub, iv_mul, iv_neg, iv_ltT, iv_ltF, iv_leT, iv_leF, iv_eqT, iv_eqF, iv_div, iv_mod, ↓bnI_s, ↓bnV_s, ↓bnJ_s, ↓bnR_s, rt_e, rt_0, rt_bz, sv_s, sv_o, ur_s, ur_e, ur_o, bz_T, bz_F, nat_eqF, Nat.reduceAdd, ↓q_M_joined, il_0, il_1, il_21]
      · rw [if_neg (by decide)]; simp (disch := first | decide | omega | (simp (disch := first | decide | omega) only [sv_s, sv_o, ur_s, ur_e, ur_o]; omega)) only [↓reduceIte, iv_add, iv_sub, iv_mul, iv_neg, iv_ltT, iv_ltF, iv_leT, iv_leF, iv_eqT, iv_eqF, iv_div, iv_mod, ↓bnI_s, ↓bnV_s, ↓bnJ_s, ↓bnR_s, rt_e, rt_0, rt_bz, sv_s, sv_o, ur_s, ur_e, ur_o, bz_T, bz_F, nat_eqF, Nat.reduceAdd, ↓q_M_joined, il_0, il_1, il_21]
    · rw [if_neg (by decide)]; simp (disch := first | decide | omega | (simp (disch := first | decide | omega) only [sv_s, sv_o, ur_s, ur_e, ur_o]; omega)) only [↓reduceIte, iv_add, iv_sub, iv_mul, iv_neg, iv_ltT, iv_ltF, iv_leT, iv_leF, iv_eqT, iv_eqF, iv_div, iv_mod, ↓bnI_s, ↓bnV_s, ↓bnJ_s, ↓bnR_s, rt_e, rt_0, rt_bz, sv_s, sv_o, ur_s, ur_e, ur_o, bz_T, bz_F, nat_eqF, Nat.reduceAdd, ↓q_M_joined, il_0, il_1, il_21]
section
variable {A : Int → Int} {V U J K : Vm} {z : Zz} {t : Nat}
/-- the model's row, but for THE BOOK -/
def Ro (U : Vm) (A : Int → Int) : Prop := ∀ j, ¬ (1425 ≤ j ∧ j < 1450) → U 436 j = A j
theorem y_M_ofOne (F : Fix z) (h : Kn V t A) (R : Ro U A) {c o v : Int} (hv : Bd v) (hc : (c = 16 ∧ o = 2) ∨ (c = 17 ∧ o = 4) ∨ (c = 41 ∧ o = 5)) : cA m_M_ofOne [.ref 435, .int (iv o), .long (jv v)] (em U K z) = some (.long (jv (onV A c v)), em U K z) := by
  have n2 := h.2.1
  have r0 : U 436 0 = A 0 := R 0 (by omega)
  have c0 : lg_cmp (jv v) (jv 0) = iv (if v < 0 then -1 else if v = 0 then 0 else 1) := by
    unfold Bd at hv
    by_cases s : v < 0
    · rw [if_pos s, jc_lt (by omega)]
    · rw [if_neg s]
      by_cases s2 : v = 0
      · rw [if_pos s2, jc_eq s2]
      · rw [if_neg s2, jc_gt (by omega)]
  have c1 : lg_cmp (jv v) (jv (A 0)) = iv (if v < A 0 then -1 else if v = A 0 then 0 else 1) := by
    unfold Bd at hv
    by_cases s : v < A 0
    · rw [if_pos s, jc_lt (by omega)]
    · rw [if_neg s]
      by_cases s2 : v = A 0
      · rw [if_pos s2, jc_eq s2]
      · rw [if_neg s2, jc_gt (by omega)]
  have l0 : 0 ≤ v → (iv 0 ≤ iv (if v < 0 then -1 else if v = 0 then 0 else 1)) = True := fun q => by
    rw [if_neg (by omega)]
    by_cases s2 : v = 0
    · rw [if_pos s2]; exact iv_leT (by omega)
    · rw [if_neg s2]; exact iv_leT (by omega)
  have l0' : ¬ 0 ≤ v → (iv 0 ≤ iv (if v < 0 then -1 else if v = 0 then 0 else 1)) = False := fun q => by
    rw [if_pos (by omega)]; exact iv_leF (by omega)
  have l1 : ¬ v < A 0 → (iv 0 ≤ iv (if v < A 0 then -1 else if v = A 0 then 0 else 1)) = True := fun q => by
    rw [if_neg q]
    by_cases s2 : v = A 0
    · rw [if_pos s2]; exact iv_leT (by omega)
    · rw [if_neg s2]; exact iv_leT (by omega)
  have l1' : v < A 0 → (iv 0 ≤ iv (if v < A 0 then -1 else if v = A 0 then 0 else 1)) = False := fun q => by
    rw [if_pos q]; exact iv_leF (by omega)
  generalize (if v < 0 then (-1 : Int) else if v = 0 then 0 else 1) = g0 at *
  generalize (if v < A 0 then (-1 : Int) else if v = A 0 then 0 else 1) = g1 at *
  unfold onV
  rcases hc with ⟨rfl, rfl⟩ | ⟨rfl, rfl⟩ | ⟨rfl, rfl⟩
  · rw [if_neg (by decide), if_neg (by decide), if_pos rfl]
    by_cases q0 : 0 ≤ v
    · by_cases q1 : v < A 0
      · have ac := y_acrossA (V := U) (J := K) F h.ps r0 (fun j j0 j1 => R j (by omega)) (k := v) ⟨q0, q1⟩
        have b := h.fur_ (b := A 0 / 2) ⟨q0, q1⟩ (by omega)
        have m0 := l0 q0
        have m1 := l1' q1
        rw [if_pos ⟨q0, q1⟩]
        simp (disch := first | decide | omega | (simp (disch := first | decide | omega) only [sv_s, sv_o, ur_s, ur_e, ur_o]; omega)) only [↓reduceIte, iv_add, iv_sub, iv_mul, iv_neg, iv_ltT, iv_ltF, iv_leT, iv_leF, iv_eqT, iv_eqF, iv_div, iv_mod, ↓bnI_s, ↓bnV_s, ↓bnJ_s, ↓bnR_s, rt_e, rt_0, rt_bz, sv_s, sv_o, ur_s, ur_e, ur_o, bz_T, bz_F, nat_eqF, Nat.reduceAdd, ↓q_M_ofOne, ↓gR_435_0 F, ↓lI_436 F, ↓lI_437 F, ↓lI_438 F, ↓lI_439 F, ↓lI_440 F, ↓lI_441 F, ↓lI_443 F, ↓lI_444 F, ↓lI_445 F, ↓lI_446 F, ↓lI_447 F, ↓lI_448 F, ↓lI_449 F, ↓lI_450 F, ↓gd_435 F, il_0, il_1, il_2, il_5, il_11, il_27, jl_0, c0, c1, m0, m1, r0, iv_long, jv_int, ac]
      · have m0 := l0 q0
        have m1 := l1 q1
        rw [if_neg (by omega)]
        simp (disch := first | decide | omega | (simp (disch := first | decide | omega) only [sv_s, sv_o, ur_s, ur_e, ur_o]; omega)) only [↓reduceIte, iv_add, iv_sub, iv_mul, iv_neg, iv_ltT, iv_ltF, iv_leT, iv_leF, iv_eqT, iv_eqF, iv_div, iv_mod, ↓bnI_s, ↓bnV_s, ↓bnJ_s, ↓bnR_s, rt_e, rt_0, rt_bz, sv_s, sv_o, ur_s, ur_e, ur_o, bz_T, bz_F, nat_eqF, Nat.reduceAdd, ↓q_M_ofOne, ↓gR_435_0 F, ↓lI_436 F, ↓lI_437 F, ↓lI_438 F, ↓lI_439 F, ↓lI_440 F, ↓lI_441 F, ↓lI_443 F, ↓lI_444 F, ↓lI_445 F, ↓lI_446 F, ↓lI_447 F, ↓lI_448 F, ↓lI_449 F, ↓lI_450 F, ↓gd_435 F, il_0, il_1, il_2, il_5, il_11, il_27, jl_0, c0, c1, m0, m1, r0, iv_long]
    · have m0 := l0' q0
      rw [if_neg (by omega)]
      simp (disch := first | decide | omega | (simp (disch := first | decide | omega) only [sv_s, sv_o, ur_s, ur_e, ur_o]; omega)) only [↓reduceIte, iv_add, iv_sub, iv_mul, iv_neg, iv_ltT, iv_ltF, iv_leT, iv_leF, iv_eqT, iv_eqF, iv_div, iv_mod, ↓bnI_s, ↓bnV_s, ↓bnJ_s, ↓bnR_s, rt_e, rt_0, rt_bz, sv_s, sv_o, ur_s, ur_e, ur_o, bz_T, bz_F, nat_eqF, Nat.reduceAdd, ↓q_M_ofOne, ↓gR_435_0 F, ↓lI_436 F, ↓lI_437 F, ↓lI_438 F, ↓lI_439 F, ↓lI_440 F, ↓lI_441 F, ↓lI_443 F, ↓lI_444 F, ↓lI_445 F, ↓lI_446 F, ↓lI_447 F, ↓lI_448 F, ↓lI_449 F, ↓lI_450 F, ↓gd_435 F, il_0, il_1, il_2, il_5, il_11, il_27, jl_0, c0, m0]
  · rw [if_neg (by decide), if_neg (by decide), if_neg (by decide)]
    by_cases q0 : 0 ≤ v
    · by_cases q1 : v < A 0
      · have uk : U 436 (11 + v) = A (11 + v) := R _ (by omega)
        have b := h.kept_ ⟨q0, q1⟩
        have m0 := l0 q0
        have m1 := l1' q1
        rw [if_pos ⟨q0, q1⟩]
        simp (disch := first | decide | omega | (simp (disch := first | decide | omega) only [sv_s, sv_o, ur_s, ur_e, ur_o]; omega)) only [↓reduceIte, iv_add, iv_sub, iv_mul, iv_neg, iv_ltT, iv_ltF, iv_leT, iv_leF, iv_eqT, iv_eqF, iv_div, iv_mod, ↓bnI_s, ↓bnV_s, ↓bnJ_s, ↓bnR_s, rt_e, rt_0, rt_bz, sv_s, sv_o, ur_s, ur_e, ur_o, bz_T, bz_F, nat_eqF, Nat.reduceAdd, ↓q_M_ofOne, ↓gR_435_0 F, ↓lI_436 F, ↓lI_437 F, ↓lI_438 F, ↓lI_439 F, ↓lI_440 F, ↓lI_441 F, ↓lI_443 F, ↓lI_444 F, ↓lI_445 F, ↓lI_446 F, ↓lI_447 F, ↓lI_448 F, ↓lI_449 F, ↓lI_450 F, ↓gd_435 F, il_0, il_1, il_2, il_5, il_11, il_27, jl_0, c0, c1, m0, m1, r0, uk, iv_long, jv_int]
      · have m0 := l0 q0
        have m1 := l1 q1
        rw [if_neg (by omega)]
        simp (disch := first | decide | omega | (simp (disch := first | decide | omega) only [sv_s, sv_o, ur_s, ur_e, ur_o]; omega)) only [↓reduceIte, iv_add, iv_sub, iv_mul, iv_neg, iv_ltT, iv_ltF, iv_leT, iv_leF, iv_eqT, iv_eqF, iv_div, iv_mod, ↓bnI_s, ↓bnV_s, ↓bnJ_s, ↓bnR_s, rt_e, rt_0, rt_bz, sv_s, sv_o, ur_s, ur_e, ur_o, bz_T, bz_F, nat_eqF, Nat.reduceAdd, ↓q_M_ofOne, ↓gR_435_0 F, ↓lI_436 F, ↓lI_437 F, ↓lI_438 F, ↓lI_439 F, ↓lI_440 F, ↓lI_441 F, ↓lI_443 F, ↓lI_444 F, ↓lI_445 F, ↓lI_446 F, ↓lI_447 F, ↓lI_448 F, ↓lI_449 F, ↓lI_450 F, ↓gd_435 F, il_0, il_1, il_2, il_5, il_11, il_27, jl_0, c0, c1, m0, m1, r0, iv_long]
    · have m0 := l0' q0
      rw [if_neg (by omega)]
      simp (disch := first | decide | omega | (simp (disch := first | decide | omega) only [sv_s, sv_o, ur_s, ur_e, ur_o]; omega)) only [↓reduceIte, iv_add, iv_sub, iv_mul, iv_neg, iv_ltT, iv_ltF, iv_leT, iv_leF, iv_eqT, iv_eqF, iv_div, iv_mod, ↓bnI_s, ↓bnV_s, ↓bnJ_s, ↓bnR_s, rt_e, rt_0, rt_bz, sv_s, sv_o, ur_s, ur_e, ur_o, bz_T, bz_F, nat_eqF, Nat.reduceAdd, ↓q_M_ofOne, ↓gR_435_0 F, ↓lI_436 F, ↓lI_437 F, ↓lI_438 F, ↓lI_439 F, ↓lI_440 F, ↓lI_441 F, ↓lI_443 F, ↓lI_444 F, ↓lI_445 F, ↓lI_446 F, ↓lI_447 F, ↓lI_448 F, ↓lI_449 F, ↓lI_450 F, ↓gd_435 F, il_0, il_1, il_2, il_5, il_11, il_27, jl_0, c0, m0]
  · rw [if_neg (by decide), if_pos rfl]
    simp (disch := first | decide | omega | (simp (disch := first | decide | omega) only [sv_s, sv_o, ur_s, ur_e, ur_o]; omega)) only [↓reduceIte, iv_add, iv_sub, iv_mul, iv_neg, iv_ltT, iv_ltF, iv_leT, iv_leF, iv_eqT, iv_eqF, iv_div, iv_mod, ↓bnI_s, ↓bnV_s, ↓bnJ_s, ↓bnR_s, rt_e, rt_0, rt_bz, sv_s, sv_o, ur_s, ur_e, ur_o, bz_T, bz_F, nat_eqF, Nat.reduceAdd, ↓q_M_ofOne, ↓gR_435_0 F, ↓lI_436 F, ↓lI_437 F, ↓lI_438 F, ↓lI_439 F, ↓lI_440 F, ↓lI_441 F, ↓lI_443 F, ↓lI_444 F, ↓lI_445 F, ↓lI_446 F, ↓lI_447 F, ↓lI_448 F, ↓lI_449 F, ↓lI_450 F, ↓gd_435 F, il_0, il_1, il_2, il_5, il_11, il_27, jv_neg]
end
