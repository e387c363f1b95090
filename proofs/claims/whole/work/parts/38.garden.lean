/-! A FLIGHT: the class counts its steps, the model marks where it has come -/
theorem si {a b : Int} {h : Mem} (e : a = b) : some (Value.int (iv a), h) = some (Value.int (iv b), h) := by rw [e]
def nb (c w : Int) : Int := if w = 0 then (if 6 ≤ c then c - 6 else -1) else if w = 1 then (if c % 6 < 5 then c + 1 else -1) else if w = 2 then (if c < 30 then c + 6 else -1) else (if 0 < c % 6 then c - 1 else -1)
def gt (s w : Int) : Int := if s = 0 then w else if s = 1 then (if w = 0 then 1 else if w = 1 then 0 else if w = 2 then 3 else 2) else 3 - w
theorem nb_rg {c w : Int} (hc : 0 ≤ c ∧ c < 36) : nb c w = -1 ∨ (0 ≤ nb c w ∧ nb c w < 36) := by
  unfold nb
  repeat' split
  all_goals omega
theorem gt_rg {s w : Int} (hs : 0 ≤ s ∧ s ≤ 3) (hw : 0 ≤ w ∧ w < 4) : 0 ≤ gt s w ∧ gt s w < 4 := by
  unfold gt
  repeat' split
  all_goals omega
theorem w4 {w : Int} (hw : 0 ≤ w ∧ w < 4) : w = 0 ∨ w = 1 ∨ w = 2 ∨ w = 3 := by omega
theorem xor1 {w : Int} (hw : 0 ≤ w ∧ w < 4) : iv w ^^^ iv 1 = iv (if w = 0 then 1 else if w = 1 then 0 else if w = 2 then 3 else 2) := by
  rcases w4 hw with rfl | rfl | rfl | rfl <;> rfl
section
variable {V J : Vm} {z : Zz}
theorem y_nextBy {c w : Int} {h : Mem} (hc : 0 ≤ c ∧ c < 36) (hw : 0 ≤ w ∧ w < 4) : cA m_M_nextBy [.int (iv c), .int (iv w)] h = some (.int (iv (nb c w)), h) := by
  rcases w4 hw with rfl | rfl | rfl | rfl
  · unfold nb
    rw [if_pos rfl]
    by_cases q : 6 ≤ c
    · simp (disch := first | decide | omega | (simp (disch := first | decide | omega) only [sv_s, sv_o, ur_s, ur_e, ur_o]; omega)) only [↓reduceIte, iv_add, iv_sub, iv_mul, iv_neg, iv_ltT, iv_ltF, iv_leT, iv_leF, iv_eqT, iv_eqF, iv_div, iv_mod, ↓bnI_s, ↓bnV_s, ↓bnJ_s, ↓bnR_s, rt_e, rt_0, rt_bz, sv_s, sv_o, ur_s, ur_e, ur_o, bz_T, bz_F, nat_eqF, ↓q_M_nextBy, ↓q_M_nextBy_22, ↓q_M_nextBy_47, il_0, il_1, il_2, il_3, il_5, il_6, il_22, il_47, y_isIn, if_pos q]
      exact si (by omega)
    · simp (disch := first | decide | omega | (simp (disch := first | decide | omega) only [sv_s, sv_o, ur_s, ur_e, ur_o]; omega)) only [↓reduceIte, iv_add, iv_sub, iv_mul, iv_neg, iv_ltT, iv_ltF, iv_leT, iv_leF, iv_eqT, iv_eqF, iv_div, iv_mod, ↓bnI_s, ↓bnV_s, ↓bnJ_s, ↓bnR_s, rt_e, rt_0, rt_bz, sv_s, sv_o, ur_s, ur_e, ur_o, bz_T, bz_F, nat_eqF, ↓q_M_nextBy, ↓q_M_nextBy_22, ↓q_M_nextBy_47, il_0, il_1, il_2, il_3, il_5, il_6, il_22, il_47, y_isIn, if_neg q]
  · unfold nb
    rw [if_neg (by decide), if_pos rfl]
    by_cases q : c % 6 < 5
    · simp (disch := first | decide | omega | (simp (disch := first | decide | omega) only [sv_s, sv_o, ur_s, ur_e, ur_o]; omega)) only [↓reduceIte, iv_add, iv_sub, iv_mul, iv_neg, iv_ltT, iv_ltF, iv_leT, iv_leF, iv_eqT, iv_eqF, iv_div, iv_mod, ↓bnI_s, ↓bnV_s, ↓bnJ_s, ↓bnR_s, rt_e, rt_0, rt_bz, sv_s, sv_o, ur_s, ur_e, ur_o, bz_T, bz_F, nat_eqF, ↓q_M_nextBy, ↓q_M_nextBy_22, ↓q_M_nextBy_47, il_0, il_1, il_2, il_3, il_5, il_6, il_22, il_47, y_isIn, if_pos q]
      exact si (by omega)
    · simp (disch := first | decide | omega | (simp (disch := first | decide | omega) only [sv_s, sv_o, ur_s, ur_e, ur_o]; omega)) only [↓reduceIte, iv_add, iv_sub, iv_mul, iv_neg, iv_ltT, iv_ltF, iv_leT, iv_leF, iv_eqT, iv_eqF, iv_div, iv_mod, ↓bnI_s, ↓bnV_s, ↓bnJ_s, ↓bnR_s, rt_e, rt_0, rt_bz, sv_s, sv_o, ur_s, ur_e, ur_o, bz_T, bz_F, nat_eqF, ↓q_M_nextBy, ↓q_M_nextBy_22, ↓q_M_nextBy_47, il_0, il_1, il_2, il_3, il_5, il_6, il_22, il_47, y_isIn, if_neg q]
  · unfold nb
    rw [if_neg (by decide), if_neg (by decide), if_pos rfl]
    by_cases q : c < 30
    · simp (disch := first | decide | omega | (simp (disch := first | decide | omega) only [sv_s, sv_o, ur_s, ur_e, ur_o]; omega)) only [↓reduceIte, iv_add, iv_sub, iv_mul, iv_neg, iv_ltT, iv_ltF, iv_leT, iv_leF, iv_eqT, iv_eqF, iv_div, iv_mod, ↓bnI_s, ↓bnV_s, ↓bnJ_s, ↓bnR_s, rt_e, rt_0, rt_bz, sv_s, sv_o, ur_s, ur_e, ur_o, bz_T, bz_F, nat_eqF, ↓q_M_nextBy, ↓q_M_nextBy_22, ↓q_M_nextBy_47, il_0, il_1, il_2, il_3, il_5, il_6, il_22, il_47, y_isIn, if_pos q]
      exact si (by omega)
    · simp (disch := first | decide | omega | (simp (disch := first | decide | omega) only [sv_s, sv_o, ur_s, ur_e, ur_o]; omega)) only [↓reduceIte, iv_add, iv_sub, iv_mul, iv_neg, iv_ltT, iv_ltF, iv_leT, iv_leF, iv_eqT, iv_eqF, iv_div, iv_mod, ↓bnI_s, ↓bnV_s, ↓bnJ_s, ↓bnR_s, rt_e, rt_0, rt_bz, sv_s, sv_o, ur_s, ur_e, ur_o, bz_T, bz_F, nat_eqF, ↓q_M_nextBy, ↓q_M_nextBy_22, ↓q_M_nextBy_47, il_0, il_1, il_2, il_3, il_5, il_6, il_22, il_47, y_isIn, if_neg q]
  · unfold nb
    rw [if_neg (by decide), if_neg (by decide), if_neg (by decide)]
    by_cases q : 0 < c % 6
    · simp (disch := first | decide | omega | (simp (disch := first | decide | omega) only [sv_s, sv_o, ur_s, ur_e, ur_o]; omega)) only [↓reduceIte, iv_add, iv_sub, iv_mul, iv_neg, iv_ltT, iv_ltF, iv_leT, iv_leF, iv_eqT, iv_eqF, iv_div, iv_mod, ↓bnI_s, ↓bnV_s, ↓bnJ_s, ↓bnR_s, rt_e, rt_0, rt_bz, sv_s, sv_o, ur_s, ur_e, ur_o, bz_T, bz_F, nat_eqF, ↓q_M_nextBy, ↓q_M_nextBy_22, ↓q_M_nextBy_47, il_0, il_1, il_2, il_3, il_5, il_6, il_22, il_47, y_isIn, if_pos q]
      exact si (by omega)
    · simp (disch := first | decide | omega | (simp (disch := first | decide | omega) only [sv_s, sv_o, ur_s, ur_e, ur_o]; omega)) only [↓reduceIte, iv_add, iv_sub, iv_mul, iv_neg, iv_ltT, iv_ltF, iv_leT, iv_leF, iv_eqT, iv_eqF, iv_div, iv_mod, ↓bnI_s, ↓bnV_s, ↓bnJ_s, ↓bnR_s, rt_e, rt_0, rt_bz, sv_s, sv_o, ur_s, ur_e, ur_o, bz_T, bz_F, nat_eqF, ↓q_M_nextBy, ↓q_M_nextBy_22, ↓q_M_nextBy_47, il_0, il_1, il_2, il_3, il_5, il_6, il_22, il_47, y_isIn, if_neg q]
theorem y_turnedBy {s w : Int} {h : Mem} (hs : 0 ≤ s ∧ s ≤ 3) (hw : 0 ≤ w ∧ w < 4) : cA m_M_turnedBy [.int (iv s), .int (iv w)] h = some (.int (iv (gt s w)), h) := by
  unfold gt
  by_cases s0 : s = 0
  · simp (disch := first | decide | omega | (simp (disch := first | decide | omega) only [sv_s, sv_o, ur_s, ur_e, ur_o]; omega)) only [↓reduceIte, iv_add, iv_sub, iv_mul, iv_neg, iv_ltT, iv_ltF, iv_leT, iv_leF, iv_eqT, iv_eqF, iv_div, iv_mod, ↓bnI_s, ↓bnV_s, ↓bnJ_s, ↓bnR_s, rt_e, rt_0, rt_bz, sv_s, sv_o, ur_s, ur_e, ur_o, bz_T, bz_F, nat_eqF, ↓q_M_turnedBy, il_0, il_1, il_2, il_3, if_pos s0]
  · by_cases s1 : s = 1
    · rcases w4 hw with rfl | rfl | rfl | rfl
      · simp (disch := first | decide | omega | (simp (disch := first | decide | omega) only [sv_s, sv_o, ur_s, ur_e, ur_o]; omega)) only [↓reduceIte, iv_add, iv_sub, iv_mul, iv_neg, iv_ltT, iv_ltF, iv_leT, iv_leF, iv_eqT, iv_eqF, iv_div, iv_mod, ↓bnI_s, ↓bnV_s, ↓bnJ_s, ↓bnR_s, rt_e, rt_0, rt_bz, sv_s, sv_o, ur_s, ur_e, ur_o, bz_T, bz_F, nat_eqF, ↓q_M_turnedBy, il_0, il_1, il_2, il_3, if_neg s0, if_pos s1, if_pos (show (0 : Int) = 0 from rfl)]
      · simp (disch := first | decide | omega | (simp (disch := first | decide | omega) only [sv_s, sv_o, ur_s, ur_e, ur_o]; omega)) only [↓reduceIte, iv_add, iv_sub, iv_mul, iv_neg, iv_ltT, iv_ltF, iv_leT, iv_leF, iv_eqT, iv_eqF, iv_div, iv_mod, ↓bnI_s, ↓bnV_s, ↓bnJ_s, ↓bnR_s, rt_e, rt_0, rt_bz, sv_s, sv_o, ur_s, ur_e, ur_o, bz_T, bz_F, nat_eqF, ↓q_M_turnedBy, il_0, il_1, il_2, il_3, if_neg s0, if_pos s1, if_neg (show ¬ (1 : Int) = 0 by decide), if_pos (show (1 : Int) = 1 from rfl)]
      · simp (disch := first | decide | omega | (simp (disch := first | decide | omega) only [sv_s, sv_o, ur_s, ur_e, ur_o]; omega)) only [↓reduceIte, iv_add, iv_sub, iv_mul, iv_neg, iv_ltT, iv_ltF, iv_leT, iv_leF, iv_eqT, iv_eqF, iv_div, iv_mod, ↓bnI_s, ↓bnV_s, ↓bnJ_s, ↓bnR_s, rt_e, rt_0, rt_bz, sv_s, sv_o, ur_s, ur_e, ur_o, bz_T, bz_F, nat_eqF, ↓q_M_turnedBy, il_0, il_1, il_2, il_3, if_neg s0, if_pos s1, if_neg (show ¬ (2 : Int) = 0 by decide), if_neg (show ¬ (2 : Int) = 1 by decide), if_pos (show (2 : Int) = 2 from rfl)]
      · simp (disch := first | decide | omega | (simp (disch := first | decide | omega) only [sv_s, sv_o, ur_s, ur_e, ur_o]; omega)) only [↓reduceIte, iv_add, iv_sub, iv_mul, iv_neg, iv_ltT, iv_ltF, iv_leT, iv_leF, iv_eqT, iv_eqF, iv_div, iv_mod, ↓bnI_s, ↓bnV_s, ↓bnJ_s, ↓bnR_s, rt_e, rt_0, rt_bz, sv_s, sv_o, ur_s, ur_e, ur_o, bz_T, bz_F, nat_eqF, ↓q_M_turnedBy, il_0, il_1, il_2, il_3, if_neg s0, if_pos s1, if_neg (show ¬ (3 : Int) = 0 by decide), if_neg (show ¬ (3 : Int) = 1 by decide), if_neg (show ¬ (3 : Int) = 2 by decide)]
    · simp (disch := first | decide | omega | (simp (disch := first | decide | omega) only [sv_s, sv_o, ur_s, ur_e, ur_o]; omega)) only [↓reduceIte, iv_add, iv_sub, iv_mul, iv_neg, iv_ltT, iv_ltF, iv_leT, iv_leF, iv_eqT, iv_eqF, iv_div, iv_mod, ↓bnI_s, ↓bnV_s, ↓bnJ_s, ↓bnR_s, rt_e, rt_0, rt_bz, sv_s, sv_o, ur_s, ur_e, ur_o, bz_T, bz_F, nat_eqF, ↓q_M_turnedBy, il_0, il_1, il_2, il_3, if_neg s0, if_neg s1]
theorem y_isFlight {c w : Int} {h : Mem} (hc : (-2147483648 ≤ c ∧ c < 2147483648)) (hw : (-2147483648 ≤ w ∧ w < 2147483648)) : cA m_M_isFlight [.int (iv c), .int (iv w)] h = some (.int (iv (bz ((0 ≤ c ∧ c ≤ 35) ∧ (0 ≤ w ∧ w ≤ 3)))), h) := by
  by_cases h1 : 0 ≤ c ∧ c ≤ 35
  · by_cases h2 : 0 ≤ w ∧ w ≤ 3
    · simp (disch := first | decide | omega | (simp (disch := first | decide | omega) only [sv_s, sv_o, ur_s, ur_e, ur_o]; omega)) only [↓reduceIte, iv_add, iv_sub, iv_mul, iv_neg, iv_ltT, iv_ltF, iv_leT, iv_leF, iv_eqT, iv_eqF, iv_div, iv_mod, ↓bnI_s, ↓bnV_s, ↓bnJ_s, ↓bnR_s, rt_e, rt_0, rt_bz, sv_s, sv_o, ur_s, ur_e, ur_o, bz_T, bz_F, nat_eqF, ↓q_M_isFlight, il_0, il_1, il_3, il_35, y_isIn]
    · simp (disch := first | decide | omega | (simp (disch := first | decide | omega) only [sv_s, sv_o, ur_s, ur_e, ur_o]; omega)) only [↓reduceIte, iv_add, iv_sub, iv_mul, iv_neg, iv_ltT, iv_ltF, iv_leT, iv_leF, iv_eqT, iv_eqF, iv_div, iv_mod, ↓bnI_s, ↓bnV_s, ↓bnJ_s, ↓bnR_s, rt_e, rt_0, rt_bz, sv_s, sv_o, ur_s, ur_e, ur_o, bz_T, bz_F, nat_eqF, ↓q_M_isFlight, il_0, il_1, il_3, il_35, y_isIn]
  · simp (disch := first | decide | omega | (simp (disch := first | decide | omega) only [sv_s, sv_o, ur_s, ur_e, ur_o]; omega)) only [↓reduceIte, iv_add, iv_sub, iv_mul, iv_neg, iv_ltT, iv_ltF, iv_leT, iv_leF, iv_eqT, iv_eqF, iv_div, iv_mod, ↓bnI_s, ↓bnV_s, ↓bnJ_s, ↓bnR_s, rt_e, rt_0, rt_bz, sv_s, sv_o, ur_s, ur_e, ur_o, bz_T, bz_F, nat_eqF, ↓q_M_isFlight, il_0, il_1, il_3, il_35, y_isIn]
theorem y_stepsOn_F (F : Fix z) (hc : 0 ≤ V 430 1 ∧ V 430 1 < 36) (hw : 0 ≤ V 430 3 ∧ V 430 3 < 4) (hn : nb (V 430 1) (V 430 3) = -1) : cA m_Flier_stepsOn [.ref 430] (em V J z) = some (.int (iv 0), em V J z) := by
  unfold nb at hn
  rcases w4 hw with e | e | e | e <;> rw [e] at hn <;> simp only [if_pos, if_neg, ↓reduceIte, Int.reduceEq] at hn <;> split at hn <;> first | (exfalso; omega) | simp (disch := first | decide | omega | (simp (disch := first | decide | omega) only [sv_s, sv_o, ur_s, ur_e, ur_o]; omega)) only [↓reduceIte, iv_add, iv_sub, iv_mul, iv_neg, iv_ltT, iv_ltF, iv_leT, iv_leF, iv_eqT, iv_eqF, iv_div, iv_mod, ↓bnI_s, ↓bnV_s, ↓bnJ_s, ↓bnR_s, rt_e, rt_0, rt_bz, sv_s, sv_o, ur_s, ur_e, ur_o, bz_T, bz_F, nat_eqF, ↓q_Flier_stepsOn, ↓q_Flier_stepsOn_31, ↓q_Flier_stepsOn_65, ↓gI_430_1 F, ↓gI_430_3 F, ↓gd_430 F, ↓gI_430_0 F, ↓pI_430_1 F, ↓pI_430_0 F, il_0, il_1, il_2, il_3, il_5, il_6, il_17, il_31, il_65, y_within, e]
theorem y_stepsOn_T (F : Fix z) (hc : 0 ≤ V 430 1 ∧ V 430 1 < 36) (hw : 0 ≤ V 430 3 ∧ V 430 3 < 4) (hn : nb (V 430 1) (V 430 3) ≠ -1) : cA m_Flier_stepsOn [.ref 430] (em V J z) = some (.int (iv 1), em (sv (sv V 430 1 (nb (V 430 1) (V 430 3))) 430 0 (V 430 0 + 1)) J z) := by
  unfold nb at hn ⊢
  rcases w4 hw with e | e | e | e <;> rw [e] at hn ⊢ <;> simp only [if_pos, if_neg, ↓reduceIte, Int.reduceEq] at hn ⊢ <;> split at hn <;> rename_i q <;> first | (exfalso; omega) | skip
  · rw [if_pos q]
    simp (disch := first | decide | omega | (simp (disch := first | decide | omega) only [sv_s, sv_o, ur_s, ur_e, ur_o]; omega)) only [↓reduceIte, iv_add, iv_sub, iv_mul, iv_neg, iv_ltT, iv_ltF, iv_leT, iv_leF, iv_eqT, iv_eqF, iv_div, iv_mod, ↓bnI_s, ↓bnV_s, ↓bnJ_s, ↓bnR_s, rt_e, rt_0, rt_bz, sv_s, sv_o, ur_s, ur_e, ur_o, bz_T, bz_F, nat_eqF, ↓q_Flier_stepsOn, ↓q_Flier_stepsOn_31, ↓q_Flier_stepsOn_65, ↓gI_430_1 F, ↓gI_430_3 F, ↓gd_430 F, ↓gI_430_0 F, ↓pI_430_1 F, ↓pI_430_0 F, il_0, il_1, il_2, il_3, il_5, il_6, il_17, il_31, il_65, y_within, e]
    rw [show (V 430 1 / 6 + -1) * 6 + (V 430 1 % 6 + 0) = V 430 1 - 6 by omega]
  · rw [if_pos q]
    simp (disch := first | decide | omega | (simp (disch := first | decide | omega) only [sv_s, sv_o, ur_s, ur_e, ur_o]; omega)) only [↓reduceIte, iv_add, iv_sub, iv_mul, iv_neg, iv_ltT, iv_ltF, iv_leT, iv_leF, iv_eqT, iv_eqF, iv_div, iv_mod, ↓bnI_s, ↓bnV_s, ↓bnJ_s, ↓bnR_s, rt_e, rt_0, rt_bz, sv_s, sv_o, ur_s, ur_e, ur_o, bz_T, bz_F, nat_eqF, ↓q_Flier_stepsOn, ↓q_Flier_stepsOn_31, ↓q_Flier_stepsOn_65, ↓gI_430_1 F, ↓gI_430_3 F, ↓gd_430 F, ↓gI_430_0 F, ↓pI_430_1 F, ↓pI_430_0 F, il_0, il_1, il_2, il_3, il_5, il_6, il_17, il_31, il_65, y_within, e]
    rw [show (V 430 1 / 6 + 0) * 6 + (V 430 1 % 6 + 1) = V 430 1 + 1 by omega]
  · rw [if_pos q]
    simp (disch := first | decide | omega | (simp (disch := first | decide | omega) only [sv_s, sv_o, ur_s, ur_e, ur_o]; omega)) only [↓reduceIte, iv_add, iv_sub, iv_mul, iv_neg, iv_ltT, iv_ltF, iv_leT, iv_leF, iv_eqT, iv_eqF, iv_div, iv_mod, ↓bnI_s, ↓bnV_s, ↓bnJ_s, ↓bnR_s, rt_e, rt_0, rt_bz, sv_s, sv_o, ur_s, ur_e, ur_o, bz_T, bz_F, nat_eqF, ↓q_Flier_stepsOn, ↓q_Flier_stepsOn_31, ↓q_Flier_stepsOn_65, ↓gI_430_1 F, ↓gI_430_3 F, ↓gd_430 F, ↓gI_430_0 F, ↓pI_430_1 F, ↓pI_430_0 F, il_0, il_1, il_2, il_3, il_5, il_6, il_17, il_31, il_65, y_within, e]
    rw [show (V 430 1 / 6 + 1) * 6 + (V 430 1 % 6 + 0) = V 430 1 + 6 by omega]
  · rw [if_pos q]
    simp (disch := first | decide | omega | (simp (disch := first | decide | omega) only [sv_s, sv_o, ur_s, ur_e, ur_o]; omega)) only [↓reduceIte, iv_add, iv_sub, iv_mul, iv_neg, iv_ltT, iv_ltF, iv_leT, iv_leF, iv_eqT, iv_eqF, iv_div, iv_mod, ↓bnI_s, ↓bnV_s, ↓bnJ_s, ↓bnR_s, rt_e, rt_0, rt_bz, sv_s, sv_o, ur_s, ur_e, ur_o, bz_T, bz_F, nat_eqF, ↓q_Flier_stepsOn, ↓q_Flier_stepsOn_31, ↓q_Flier_stepsOn_65, ↓gI_430_1 F, ↓gI_430_3 F, ↓gd_430 F, ↓gI_430_0 F, ↓pI_430_1 F, ↓pI_430_0 F, il_0, il_1, il_2, il_3, il_5, il_6, il_17, il_31, il_65, y_within, e]
    rw [show (V 430 1 / 6 + 0) * 6 + (V 430 1 % 6 + -1) = V 430 1 - 1 by omega]
theorem y_meets (F : Fix z) {s : Int} (hs : 0 ≤ s ∧ s ≤ 3) (hw : 0 ≤ V 430 3 ∧ V 430 3 < 4) : cA m_Flier_meets [.ref 430, .int (iv s)] (em V J z) = some (.int (iv (bz (s = 3))), em (if s = 1 ∨ s = 2 then sv (sv V 430 3 (gt s (V 430 3))) 430 2 (V 430 2 + 1) else V) J z) := by
  rcases (show s = 0 ∨ s = 1 ∨ s = 2 ∨ s = 3 by omega) with rfl | rfl | rfl | rfl
  · rw [if_neg (by omega)]
    simp (disch := first | decide | omega | (simp (disch := first | decide | omega) only [sv_s, sv_o, ur_s, ur_e, ur_o]; omega)) only [↓reduceIte, iv_add, iv_sub, iv_mul, iv_neg, iv_ltT, iv_ltF, iv_leT, iv_leF, iv_eqT, iv_eqF, iv_div, iv_mod, ↓bnI_s, ↓bnV_s, ↓bnJ_s, ↓bnR_s, rt_e, rt_0, rt_bz, sv_s, sv_o, ur_s, ur_e, ur_o, bz_T, bz_F, nat_eqF, ↓q_Flier_meets, ↓q_Flier_meets_10, ↓q_Flier_meets_31, ↓gd_430 F, ↓gI_430_3 F, ↓gI_430_2 F, ↓pI_430_3 F, ↓pI_430_2 F, il_0, il_1, il_2, il_3, il_10, il_17, il_31]
  · rw [if_pos (by omega)]
    unfold gt
    rw [if_neg (by decide), if_pos rfl]
    simp (disch := first | decide | omega | (simp (disch := first | decide | omega) only [sv_s, sv_o, ur_s, ur_e, ur_o]; omega)) only [↓reduceIte, iv_add, iv_sub, iv_mul, iv_neg, iv_ltT, iv_ltF, iv_leT, iv_leF, iv_eqT, iv_eqF, iv_div, iv_mod, ↓bnI_s, ↓bnV_s, ↓bnJ_s, ↓bnR_s, rt_e, rt_0, rt_bz, sv_s, sv_o, ur_s, ur_e, ur_o, bz_T, bz_F, nat_eqF, ↓q_Flier_meets, ↓q_Flier_meets_10, ↓q_Flier_meets_31, ↓gd_430 F, ↓gI_430_3 F, ↓gI_430_2 F, ↓pI_430_3 F, ↓pI_430_2 F, il_0, il_1, il_2, il_3, il_10, il_17, il_31, xor1]
  · rw [if_pos (by omega)]
    unfold gt
    rw [if_neg (by decide), if_neg (by decide)]
    simp (disch := first | decide | omega | (simp (disch := first | decide | omega) only [sv_s, sv_o, ur_s, ur_e, ur_o]; omega)) only [↓reduceIte, iv_add, iv_sub, iv_mul, iv_neg, iv_ltT, iv_ltF, iv_leT, iv_leF, iv_eqT, iv_eqF, iv_div, iv_mod, ↓bnI_s, ↓bnV_s, ↓bnJ_s, ↓bnR_s, rt_e, rt_0, rt_bz, sv_s, sv_o, ur_s, ur_e, ur_o, bz_T, bz_F, nat_eqF, ↓q_Flier_meets, ↓q_Flier_meets_10, ↓q_Flier_meets_31, ↓gd_430 F, ↓gI_430_3 F, ↓gI_430_2 F, ↓pI_430_3 F, ↓pI_430_2 F, il_0, il_1, il_2, il_3, il_10, il_17, il_31]
  · rw [if_neg (by omega), bz_T rfl]
    simp (disch := first | decide | omega | (simp (disch := first | decide | omega) only [sv_s, sv_o, ur_s, ur_e, ur_o]; omega)) only [↓reduceIte, iv_add, iv_sub, iv_mul, iv_neg, iv_ltT, iv_ltF, iv_leT, iv_leF, iv_eqT, iv_eqF, iv_div, iv_mod, ↓bnI_s, ↓bnV_s, ↓bnJ_s, ↓bnR_s, rt_e, rt_0, rt_bz, sv_s, sv_o, ur_s, ur_e, ur_o, bz_T, bz_F, nat_eqF, ↓q_Flier_meets, ↓q_Flier_meets_10, ↓q_Flier_meets_31, ↓gd_430 F, ↓gI_430_3 F, ↓gI_430_2 F, ↓pI_430_3 F, ↓pI_430_2 F, il_0, il_1, il_2, il_3, il_10, il_17, il_31]
end
/-- where a flight stands after so many steps: the CELL, the WAY on, the turns -/
def fs (D : Int → Int) (c w : Int) : Nat → Int × Int × Int
  | 0 => (c, w, 0)
  | j + 1 => (nb (fs D c w j).1 (fs D c w j).2.1, gt (D (nb (fs D c w j).1 (fs D c w j).2.1)) (fs D c w j).2.1, (fs D c w j).2.2 + (if 0 < D (nb (fs D c w j).1 (fs D c w j).2.1) then 1 else 0))
/-- where it comes to by the next step -/
def fn (D : Int → Int) (c w : Int) (j : Nat) : Int := nb (fs D c w j).1 (fs D c w j).2.1
def go (D : Int → Int) (c w : Int) (j : Nat) : Prop := fn D c w j ≠ -1 ∧ D (fn D c w j) ≠ 3
def arr (D : Int → Int) (c w : Int) (j : Nat) : Int := 4 * fn D c w j + (fs D c w j).2.1
def HD (D : Int → Int) : Prop := ∀ k, 0 ≤ k → k < 36 → 0 ≤ D k ∧ D k ≤ 3
section
variable {D : Int → Int} {c w : Int}
theorem fs_rg (h : HD D) (hc : 0 ≤ c ∧ c < 36) (hw : 0 ≤ w ∧ w < 4) : ∀ j : Nat, (∀ l, l < j → go D c w l) → (0 ≤ (fs D c w j).1 ∧ (fs D c w j).1 < 36) ∧ (0 ≤ (fs D c w j).2.1 ∧ (fs D c w j).2.1 < 4) ∧ (0 ≤ (fs D c w j).2.2 ∧ (fs D c w j).2.2 ≤ j) := by
  intro j
  induction j with
  | zero => exact fun _ => ⟨hc, hw, Int.le_refl 0, Int.le_refl 0⟩
  | succ j ih =>
    intro hg
    obtain ⟨a1, a2, a3⟩ := ih (fun l hl => hg l (by omega))
    have g := hg j (by omega)
    have n0 : 0 ≤ fn D c w j ∧ fn D c w j < 36 := (nb_rg a1).resolve_left g.1
    refine ⟨n0, gt_rg (h _ n0.1 n0.2) a2, ?_⟩
    show 0 ≤ (fs D c w j).2.2 + (if 0 < D (fn D c w j) then 1 else 0) ∧ (fs D c w j).2.2 + (if 0 < D (fn D c w j) then 1 else 0) ≤ ((j + 1 : Nat) : Int)
    split <;> omega
/-- who comes by the same way to the same CELL again flies for ever -/
theorem go_per (h : HD D) (hc : 0 ≤ c ∧ c < 36) (hw : 0 ≤ w ∧ w < 4) {i j : Nat} (hj : j < i) (hg : ∀ l, l < i → go D c w l) (h1 : fn D c w i ≠ -1) (ha : arr D c w i = arr D c w j) : ∀ l, go D c w l := by
  obtain ⟨-, a2, -⟩ := fs_rg h hc hw i hg
  obtain ⟨-, b2, -⟩ := fs_rg h hc hw j (fun l hl => hg l (by omega))
  unfold arr at ha
  have en : fn D c w i = fn D c w j := by omega
  have ew : (fs D c w i).2.1 = (fs D c w j).2.1 := by omega
  have st : ∀ m : Nat, (fs D c w (i + 1 + m)).1 = (fs D c w (j + 1 + m)).1 ∧ (fs D c w (i + 1 + m)).2.1 = (fs D c w (j + 1 + m)).2.1 := by
    intro m
    induction m with
    | zero =>
      refine ⟨en, ?_⟩
      show gt (D (fn D c w i)) (fs D c w i).2.1 = gt (D (fn D c w j)) (fs D c w j).2.1
      rw [en, ew]
    | succ m ih =>
      have e : fn D c w (i + 1 + m) = fn D c w (j + 1 + m) := by unfold fn; rw [ih.1, ih.2]
      refine ⟨e, ?_⟩
      show gt (D (fn D c w (i + 1 + m))) (fs D c w (i + 1 + m)).2.1 = gt (D (fn D c w (j + 1 + m))) (fs D c w (j + 1 + m)).2.1
      rw [e, ih.2]
  intro l
  induction l using Nat.strongRecOn with
  | _ l ih =>
    by_cases hl : l < i
    · exact hg l hl
    · by_cases hl2 : l = i
      · subst hl2
        refine ⟨h1, ?_⟩
        rw [en]
        exact (hg j hj).2
      · obtain ⟨m, rfl⟩ : ∃ m, l = i + 1 + m := ⟨l - i - 1, by omega⟩
        have e : fn D c w (i + 1 + m) = fn D c w (j + 1 + m) := by unfold fn; rw [(st m).1, (st m).2]
        unfold go
        rw [e]
        exact ih (j + 1 + m) (by omega)
end
/-- how it ends: CELLS, the last, the turns, the WAY -/
def fe (D : Int → Int) (c w : Int) (N : Nat) : Int × Int × Int × Int := if fn D c w N = -1 then (N, (fs D c w N).1, (fs D c w N).2.2, (fs D c w N).2.1) else (N + 1, fn D c w N, (fs D c w N).2.2, (fs D c w N).2.1)
/-- it ends with step N -/
def fin (D : Int → Int) (c w : Int) (N : Nat) : Prop := N ≤ 144 ∧ (∀ l, l < N → go D c w l) ∧ ¬ go D c w N
theorem fin_u {D : Int → Int} {c w : Int} {N M : Nat} (a : fin D c w N) (b : fin D c w M) : N = M := by
  rcases Nat.lt_trichotomy N M with h | h | h
  · exact absurd (b.2.1 N h) a.2.2
  · exact h
  · exact absurd (a.2.1 M h) b.2.2
section
variable {V J : Vm} {z : Zz}
theorem y_ends_l (F : Fix z) {D : Int → Int} {c w : Int} (h : HD D) (hc : 0 ≤ c ∧ c < 36) (hw : 0 ≤ w ∧ w < 4) : ∀ (m i : Nat) (V : Vm), i + m = 145 → V 19 = D → V 430 0 = i → V 430 1 = (fs D c w i).1 → V 430 2 = (fs D c w i).2.2 → V 430 3 = (fs D c w i).2.1 → (∀ l, l < i → go D c w l) →
    ∃ V', (∀ a, a ≠ 430 → V' a = V a) ∧ ((∃ N, fin D c w N ∧ V' 430 0 = (fe D c w N).1 ∧ V' 430 1 = (fe D c w N).2.1 ∧ V' 430 2 = (fe D c w N).2.2.1 ∧ V' 430 3 = (fe D c w N).2.2.2 ∧ rX m_Flier_ends m_Flier_ends 23 [.ref 430, .ref 19, dd, dd, .int (iv i)] [] (em V J z) = some (.int (iv 1), em V' J z)) ∨ ((∀ l, l < 145 → go D c w l) ∧ rX m_Flier_ends m_Flier_ends 23 [.ref 430, .ref 19, dd, dd, .int (iv i)] [] (em V J z) = some (.int (iv 0), em V' J z))) := by
  intro m
  induction m with
  | zero =>
    intro i V hi hD h0 h1 h2 h3 hg
    refine ⟨V, fun _ _ => rfl, Or.inr ⟨fun l hl => hg l (by omega), ?_⟩⟩
    (rw [q_Flier_ends_23]; simp (disch := first | decide | omega | (simp (disch := first | decide | omega) only [sv_s, sv_o, ur_s, ur_e, ur_o]; omega)) only [↓reduceIte, iv_add, iv_sub, iv_mul, iv_neg, iv_ltT, iv_ltF, iv_leT, iv_leF, iv_eqT, iv_eqF, iv_div, iv_mod, ↓bnI_s, ↓bnV_s, ↓bnJ_s, ↓bnR_s, rt_e, rt_0, rt_bz, sv_s, sv_o, ur_s, ur_e, ur_o, bz_T, bz_F, nat_eqF, ↓gI_430_1 F, il_0, il_1, il_23, il_144])
  | succ m ih =>
    intro i V hi hD h0 h1 h2 h3 hg
    obtain ⟨a1, a2, a3⟩ := fs_rg h hc hw i hg
    rw [← h1] at a1
    rw [← h3] at a2
    rw [← h2] at a3
    have en : fn D c w i = nb (V 430 1) (V 430 3) := by unfold fn; rw [h1, h3]
    by_cases q : nb (V 430 1) (V 430 3) = -1
    · refine ⟨V, fun _ _ => rfl, Or.inl ⟨i, ⟨by omega, hg, fun g => g.1 (en.trans q)⟩, ?_, ?_, ?_, ?_, ?_⟩⟩
      · unfold fe; rw [if_pos (en.trans q)]; exact h0
      · unfold fe; rw [if_pos (en.trans q)]; exact h1
      · unfold fe; rw [if_pos (en.trans q)]; exact h2
      · unfold fe; rw [if_pos (en.trans q)]; exact h3
      · (rw [q_Flier_ends_23]; simp (disch := first | decide | omega | (simp (disch := first | decide | omega) only [sv_s, sv_o, ur_s, ur_e, ur_o]; omega)) only [↓reduceIte, iv_add, iv_sub, iv_mul, iv_neg, iv_ltT, iv_ltF, iv_leT, iv_leF, iv_eqT, iv_eqF, iv_div, iv_mod, ↓bnI_s, ↓bnV_s, ↓bnJ_s, ↓bnR_s, rt_e, rt_0, rt_bz, sv_s, sv_o, ur_s, ur_e, ur_o, bz_T, bz_F, nat_eqF, ↓gI_430_1 F, il_0, il_1, il_23, il_144, y_stepsOn_F F a1 a2 q])
    · have n0 := (nb_rg (w := V 430 3) a1).resolve_left q
      have hs := h _ n0.1 n0.2
      by_cases q3 : D (nb (V 430 1) (V 430 3)) = 3
      · refine ⟨sv (sv V 430 1 (nb (V 430 1) (V 430 3))) 430 0 (V 430 0 + 1), fun a ha => by rw [sv_o ha, sv_o ha], Or.inl ⟨i, ⟨by omega, hg, fun g => g.2 (by rw [en]; exact q3)⟩, ?_, ?_, ?_, ?_, ?_⟩⟩
        · unfold fe; rw [if_neg (by rw [en]; exact q)]; simp (disch := first | decide | omega | (simp (disch := first | decide | omega) only [sv_s, sv_o, ur_s, ur_e, ur_o]; omega)) only [↓reduceIte, iv_add, iv_sub, iv_mul, iv_neg, iv_ltT, iv_ltF, iv_leT, iv_leF, iv_eqT, iv_eqF, iv_div, iv_mod, ↓bnI_s, ↓bnV_s, ↓bnJ_s, ↓bnR_s, rt_e, rt_0, rt_bz, sv_s, sv_o, ur_s, ur_e, ur_o, bz_T, bz_F, nat_eqF]; exact congrArg (· + 1) h0
        · unfold fe; rw [if_neg (by rw [en]; exact q)]; simp (disch := first | decide | omega | (simp (disch := first | decide | omega) only [sv_s, sv_o, ur_s, ur_e, ur_o]; omega)) only [↓reduceIte, iv_add, iv_sub, iv_mul, iv_neg, iv_ltT, iv_ltF, iv_leT, iv_leF, iv_eqT, iv_eqF, iv_div, iv_mod, ↓bnI_s, ↓bnV_s, ↓bnJ_s, ↓bnR_s, rt_e, rt_0, rt_bz, sv_s, sv_o, ur_s, ur_e, ur_o, bz_T, bz_F, nat_eqF]; exact en.symm
        · unfold fe; rw [if_neg (by rw [en]; exact q)]; simp (disch := first | decide | omega | (simp (disch := first | decide | omega) only [sv_s, sv_o, ur_s, ur_e, ur_o]; omega)) only [↓reduceIte, iv_add, iv_sub, iv_mul, iv_neg, iv_ltT, iv_ltF, iv_leT, iv_leF, iv_eqT, iv_eqF, iv_div, iv_mod, ↓bnI_s, ↓bnV_s, ↓bnJ_s, ↓bnR_s, rt_e, rt_0, rt_bz, sv_s, sv_o, ur_s, ur_e, ur_o, bz_T, bz_F, nat_eqF]; exact h2
        · unfold fe; rw [if_neg (by rw [en]; exact q)]; simp (disch := first | decide | omega | (simp (disch := first | decide | omega) only [sv_s, sv_o, ur_s, ur_e, ur_o]; omega)) only [↓reduceIte, iv_add, iv_sub, iv_mul, iv_neg, iv_ltT, iv_ltF, iv_leT, iv_leF, iv_eqT, iv_eqF, iv_div, iv_mod, ↓bnI_s, ↓bnV_s, ↓bnJ_s, ↓bnR_s, rt_e, rt_0, rt_bz, sv_s, sv_o, ur_s, ur_e, ur_o, bz_T, bz_F, nat_eqF]; exact h3
        · (rw [q_Flier_ends_23]; simp (disch := first | decide | omega | (simp (disch := first | decide | omega) only [sv_s, sv_o, ur_s, ur_e, ur_o]; omega)) only [↓reduceIte, iv_add, iv_sub, iv_mul, iv_neg, iv_ltT, iv_ltF, iv_leT, iv_leF, iv_eqT, iv_eqF, iv_div, iv_mod, ↓bnI_s, ↓bnV_s, ↓bnJ_s, ↓bnR_s, rt_e, rt_0, rt_bz, sv_s, sv_o, ur_s, ur_e, ur_o, bz_T, bz_F, nat_eqF, ↓gI_430_1 F, il_0, il_1, il_23, il_144, y_stepsOn_T F a1 a2 q, y_get (s_19 F) (by decide), rd_in, hD, q3, y_meets F, if_neg (show ¬ ((3 : Int) = 1 ∨ (3 : Int) = 2) by decide), bz_T (show (3 : Int) = 3 from rfl)])
      · have g : go D c w i := ⟨by rw [en]; exact q, by rw [en]; exact q3⟩
        have hg' : ∀ l, l < i + 1 → go D c w l := fun l hl => by
          rcases Nat.lt_or_eq_of_le (Nat.le_of_lt_succ hl) with q | q
          · exact hg l q
          · rw [q]; exact g
        by_cases q0 : D (nb (V 430 1) (V 430 3)) = 0
        · have st : rX m_Flier_ends m_Flier_ends 23 [.ref 430, .ref 19, dd, dd, .int (iv i)] [] (em V J z) = rX m_Flier_ends m_Flier_ends 23 [.ref 430, .ref 19, dd, dd, .int (iv ((i + 1 : Nat) : Int))] [] (em (sv (sv V 430 1 (nb (V 430 1) (V 430 3))) 430 0 (V 430 0 + 1)) J z) := by
            (rw [q_Flier_ends_23]; simp (disch := first | decide | omega | (simp (disch := first | decide | omega) only [sv_s, sv_o, ur_s, ur_e, ur_o]; omega)) only [↓reduceIte, iv_add, iv_sub, iv_mul, iv_neg, iv_ltT, iv_ltF, iv_leT, iv_leF, iv_eqT, iv_eqF, iv_div, iv_mod, ↓bnI_s, ↓bnV_s, ↓bnJ_s, ↓bnR_s, rt_e, rt_0, rt_bz, sv_s, sv_o, ur_s, ur_e, ur_o, bz_T, bz_F, nat_eqF, ↓gI_430_1 F, il_0, il_1, il_23, il_144, y_stepsOn_T F a1 a2 q, y_get (s_19 F) (by decide), rd_in, hD, q0, y_meets F, if_neg (show ¬ ((0 : Int) = 1 ∨ (0 : Int) = 2) by decide), bz_F (show ¬ (0 : Int) = 3 by decide), Int.natCast_add, Int.natCast_one])
          have e1 : (fs D c w (i + 1)).1 = nb (V 430 1) (V 430 3) := en
          have e3 : (fs D c w (i + 1)).2.1 = gt (D (nb (V 430 1) (V 430 3))) (V 430 3) := by
            show gt (D (fn D c w i)) (fs D c w i).2.1 = _
            rw [en, h3]
          have e2 : (fs D c w (i + 1)).2.2 = V 430 2 + (if 0 < D (nb (V 430 1) (V 430 3)) then 1 else 0) := by
            show (fs D c w i).2.2 + (if 0 < D (fn D c w i) then 1 else 0) = _
            rw [en, h2]
          obtain ⟨V', f1, f2⟩ := ih (i + 1) (sv (sv V 430 1 (nb (V 430 1) (V 430 3))) 430 0 (V 430 0 + 1)) (by omega) (by simp (disch := first | decide | omega | (simp (disch := first | decide | omega) only [sv_s, sv_o, ur_s, ur_e, ur_o]; omega)) only [↓reduceIte, iv_add, iv_sub, iv_mul, iv_neg, iv_ltT, iv_ltF, iv_leT, iv_leF, iv_eqT, iv_eqF, iv_div, iv_mod, ↓bnI_s, ↓bnV_s, ↓bnJ_s, ↓bnR_s, rt_e, rt_0, rt_bz, sv_s, sv_o, ur_s, ur_e, ur_o, bz_T, bz_F, nat_eqF, hD]) (by simp (disch := first | decide | omega | (simp (disch := first | decide | omega) only [sv_s, sv_o, ur_s, ur_e, ur_o]; omega)) only [↓reduceIte, iv_add, iv_sub, iv_mul, iv_neg, iv_ltT, iv_ltF, iv_leT, iv_leF, iv_eqT, iv_eqF, iv_div, iv_mod, ↓bnI_s, ↓bnV_s, ↓bnJ_s, ↓bnR_s, rt_e, rt_0, rt_bz, sv_s, sv_o, ur_s, ur_e, ur_o, bz_T, bz_F, nat_eqF]; omega) (by rw [e1]; simp (disch := first | decide | omega | (simp (disch := first | decide | omega) only [sv_s, sv_o, ur_s, ur_e, ur_o]; omega)) only [↓reduceIte, iv_add, iv_sub, iv_mul, iv_neg, iv_ltT, iv_ltF, iv_leT, iv_leF, iv_eqT, iv_eqF, iv_div, iv_mod, ↓bnI_s, ↓bnV_s, ↓bnJ_s, ↓bnR_s, rt_e, rt_0, rt_bz, sv_s, sv_o, ur_s, ur_e, ur_o, bz_T, bz_F, nat_eqF]) (by rw [e2, if_neg (by omega)]; simp (disch := first | decide | omega | (simp (disch := first | decide | omega) only [sv_s, sv_o, ur_s, ur_e, ur_o]; omega)) only [↓reduceIte, iv_add, iv_sub, iv_mul, iv_neg, iv_ltT, iv_ltF, iv_leT, iv_leF, iv_eqT, iv_eqF, iv_div, iv_mod, ↓bnI_s, ↓bnV_s, ↓bnJ_s, ↓bnR_s, rt_e, rt_0, rt_bz, sv_s, sv_o, ur_s, ur_e, ur_o, bz_T, bz_F, nat_eqF]; omega) (by rw [e3, q0]; simp (disch := first | decide | omega | (simp (disch := first | decide | omega) only [sv_s, sv_o, ur_s, ur_e, ur_o]; omega)) only [↓reduceIte, iv_add, iv_sub, iv_mul, iv_neg, iv_ltT, iv_ltF, iv_leT, iv_leF, iv_eqT, iv_eqF, iv_div, iv_mod, ↓bnI_s, ↓bnV_s, ↓bnJ_s, ↓bnR_s, rt_e, rt_0, rt_bz, sv_s, sv_o, ur_s, ur_e, ur_o, bz_T, bz_F, nat_eqF]; rfl) hg'
          refine ⟨V', fun a ha => (f1 a ha).trans (by rw [sv_o ha, sv_o ha]), ?_⟩
          rw [st]
          exact f2
        · have st : rX m_Flier_ends m_Flier_ends 23 [.ref 430, .ref 19, dd, dd, .int (iv i)] [] (em V J z) = rX m_Flier_ends m_Flier_ends 23 [.ref 430, .ref 19, dd, dd, .int (iv ((i + 1 : Nat) : Int))] [] (em (sv (sv (sv (sv V 430 1 (nb (V 430 1) (V 430 3))) 430 0 (V 430 0 + 1)) 430 3 (gt (D (nb (V 430 1) (V 430 3))) (V 430 3))) 430 2 (V 430 2 + 1)) J z) := by
            (rw [q_Flier_ends_23]; simp (disch := first | decide | omega | (simp (disch := first | decide | omega) only [sv_s, sv_o, ur_s, ur_e, ur_o]; omega)) only [↓reduceIte, iv_add, iv_sub, iv_mul, iv_neg, iv_ltT, iv_ltF, iv_leT, iv_leF, iv_eqT, iv_eqF, iv_div, iv_mod, ↓bnI_s, ↓bnV_s, ↓bnJ_s, ↓bnR_s, rt_e, rt_0, rt_bz, sv_s, sv_o, ur_s, ur_e, ur_o, bz_T, bz_F, nat_eqF, ↓gI_430_1 F, il_0, il_1, il_23, il_144, y_stepsOn_T F a1 a2 q, y_get (s_19 F) (by decide), rd_in, hD, y_meets F, if_pos (show D (nb (V 430 1) (V 430 3)) = 1 ∨ D (nb (V 430 1) (V 430 3)) = 2 by omega), Int.natCast_add, Int.natCast_one])
          have e1 : (fs D c w (i + 1)).1 = nb (V 430 1) (V 430 3) := en
          have e3 : (fs D c w (i + 1)).2.1 = gt (D (nb (V 430 1) (V 430 3))) (V 430 3) := by
            show gt (D (fn D c w i)) (fs D c w i).2.1 = _
            rw [en, h3]
          have e2 : (fs D c w (i + 1)).2.2 = V 430 2 + (if 0 < D (nb (V 430 1) (V 430 3)) then 1 else 0) := by
            show (fs D c w i).2.2 + (if 0 < D (fn D c w i) then 1 else 0) = _
            rw [en, h2]
          obtain ⟨V', f1, f2⟩ := ih (i + 1) (sv (sv (sv (sv V 430 1 (nb (V 430 1) (V 430 3))) 430 0 (V 430 0 + 1)) 430 3 (gt (D (nb (V 430 1) (V 430 3))) (V 430 3))) 430 2 (V 430 2 + 1)) (by omega) (by simp (disch := first | decide | omega | (simp (disch := first | decide | omega) only [sv_s, sv_o, ur_s, ur_e, ur_o]; omega)) only [↓reduceIte, iv_add, iv_sub, iv_mul, iv_neg, iv_ltT, iv_ltF, iv_leT, iv_leF, iv_eqT, iv_eqF, iv_div, iv_mod, ↓bnI_s, ↓bnV_s, ↓bnJ_s, ↓bnR_s, rt_e, rt_0, rt_bz, sv_s, sv_o, ur_s, ur_e, ur_o, bz_T, bz_F, nat_eqF, hD]) (by simp (disch := first | decide | omega | (simp (disch := first | decide | omega) only [sv_s, sv_o, ur_s, ur_e, ur_o]; omega)) only [↓reduceIte, iv_add, iv_sub, iv_mul, iv_neg, iv_ltT, iv_ltF, iv_leT, iv_leF, iv_eqT, iv_eqF, iv_div, iv_mod, ↓bnI_s, ↓bnV_s, ↓bnJ_s, ↓bnR_s, rt_e, rt_0, rt_bz, sv_s, sv_o, ur_s, ur_e, ur_o, bz_T, bz_F, nat_eqF]; omega) (by rw [e1]; simp (disch := first | decide | omega | (simp (disch := first | decide | omega) only [sv_s, sv_o, ur_s, ur_e, ur_o]; omega)) only [↓reduceIte, iv_add, iv_sub, iv_mul, iv_neg, iv_ltT, iv_ltF, iv_leT, iv_leF, iv_eqT, iv_eqF, iv_div, iv_mod, ↓bnI_s, ↓bnV_s, ↓bnJ_s, ↓bnR_s, rt_e, rt_0, rt_bz, sv_s, sv_o, ur_s, ur_e, ur_o, bz_T, bz_F, nat_eqF]) (by rw [e2, if_pos (by omega)]; simp (disch := first | decide | omega | (simp (disch := first | decide | omega) only [sv_s, sv_o, ur_s, ur_e, ur_o]; omega)) only [↓reduceIte, iv_add, iv_sub, iv_mul, iv_neg, iv_ltT, iv_ltF, iv_leT, iv_leF, iv_eqT, iv_eqF, iv_div, iv_mod, ↓bnI_s, ↓bnV_s, ↓bnJ_s, ↓bnR_s, rt_e, rt_0, rt_bz, sv_s, sv_o, ur_s, ur_e, ur_o, bz_T, bz_F, nat_eqF]) (by rw [e3]; simp (disch := first | decide | omega | (simp (disch := first | decide | omega) only [sv_s, sv_o, ur_s, ur_e, ur_o]; omega)) only [↓reduceIte, iv_add, iv_sub, iv_mul, iv_neg, iv_ltT, iv_ltF, iv_leT, iv_leF, iv_eqT, iv_eqF, iv_div, iv_mod, ↓bnI_s, ↓bnV_s, ↓bnJ_s, ↓bnR_s, rt_e, rt_0, rt_bz, sv_s, sv_o, ur_s, ur_e, ur_o, bz_T, bz_F, nat_eqF]) hg'
          refine ⟨V', fun a ha => (f1 a ha).trans (by rw [sv_o ha, sv_o ha, sv_o ha, sv_o ha]), ?_⟩
          rw [st]
          exact f2
theorem y_ends (F : Fix z) (h : HD (V 19)) {c w : Int} (hc : 0 ≤ c ∧ c < 36) (hw : 0 ≤ w ∧ w < 4) :
    ∃ V', (∀ a, a ≠ 430 → V' a = V a) ∧ ((∃ N, fin (V 19) c w N ∧ V' 430 0 = (fe (V 19) c w N).1 ∧ V' 430 1 = (fe (V 19) c w N).2.1 ∧ V' 430 2 = (fe (V 19) c w N).2.2.1 ∧ V' 430 3 = (fe (V 19) c w N).2.2.2 ∧ cA m_Flier_ends [.ref 430, .ref 19, .int (iv c), .int (iv w)] (em V J z) = some (.int (iv 1), em V' J z)) ∨ ((∀ l, l < 145 → go (V 19) c w l) ∧ cA m_Flier_ends [.ref 430, .ref 19, .int (iv c), .int (iv w)] (em V J z) = some (.int (iv 0), em V' J z))) := by
  obtain ⟨V', f1, f2⟩ := y_ends_l (J := J) F h hc hw 145 0 (sv (sv (sv (sv V 430 0 0) 430 1 c) 430 2 0) 430 3 w) (by omega) (by simp (disch := first | decide | omega | (simp (disch := first | decide | omega) only [sv_s, sv_o, ur_s, ur_e, ur_o]; omega)) only [↓reduceIte, iv_add, iv_sub, iv_mul, iv_neg, iv_ltT, iv_ltF, iv_leT, iv_leF, iv_eqT, iv_eqF, iv_div, iv_mod, ↓bnI_s, ↓bnV_s, ↓bnJ_s, ↓bnR_s, rt_e, rt_0, rt_bz, sv_s, sv_o, ur_s, ur_e, ur_o, bz_T, bz_F, nat_eqF]) (by simp (disch := first | decide | omega | (simp (disch := first | decide | omega) only [sv_s, sv_o, ur_s, ur_e, ur_o]; omega)) only [↓reduceIte, iv_add, iv_sub, iv_mul, iv_neg, iv_ltT, iv_ltF, iv_leT, iv_leF, iv_eqT, iv_eqF, iv_div, iv_mod, ↓bnI_s, ↓bnV_s, ↓bnJ_s, ↓bnR_s, rt_e, rt_0, rt_bz, sv_s, sv_o, ur_s, ur_e, ur_o, bz_T, bz_F, nat_eqF]; rfl) (by simp (disch := first | decide | omega | (simp (disch := first | decide | omega) only [sv_s, sv_o, ur_s, ur_e, ur_o]; omega)) only [↓reduceIte, iv_add, iv_sub, iv_mul, iv_neg, iv_ltT, iv_ltF, iv_leT, iv_leF, iv_eqT, iv_eqF, iv_div, iv_mod, ↓bnI_s, ↓bnV_s, ↓bnJ_s, ↓bnR_s, rt_e, rt_0, rt_bz, sv_s, sv_o, ur_s, ur_e, ur_o, bz_T, bz_F, nat_eqF]; rfl) (by simp (disch := first | decide | omega | (simp (disch := first | decide | omega) only [sv_s, sv_o, ur_s, ur_e, ur_o]; omega)) only [↓reduceIte, iv_add, iv_sub, iv_mul, iv_neg, iv_ltT, iv_ltF, iv_leT, iv_leF, iv_eqT, iv_eqF, iv_div, iv_mod, ↓bnI_s, ↓bnV_s, ↓bnJ_s, ↓bnR_s, rt_e, rt_0, rt_bz, sv_s, sv_o, ur_s, ur_e, ur_o, bz_T, bz_F, nat_eqF]; rfl) (by simp (disch := first | decide | omega | (simp (disch := first | decide | omega) only [sv_s, sv_o, ur_s, ur_e, ur_o]; omega)) only [↓reduceIte, iv_add, iv_sub, iv_mul, iv_neg, iv_ltT, iv_ltF, iv_leT, iv_leF, iv_eqT, iv_eqF, iv_div, iv_mod, ↓bnI_s, ↓bnV_s, ↓bnJ_s, ↓bnR_s, rt_e, rt_0, rt_bz, sv_s, sv_o, ur_s, ur_e, ur_o, bz_T, bz_F, nat_eqF]; rfl) (fun l hl => absurd hl (Nat.not_lt_zero l))
  refine ⟨V', fun a ha => (f1 a ha).trans (by rw [sv_o ha, sv_o ha, sv_o ha, sv_o ha]), ?_⟩
  have st : cA m_Flier_ends [.ref 430, .ref 19, .int (iv c), .int (iv w)] (em V J z) = rX m_Flier_ends m_Flier_ends 23 [.ref 430, .ref 19, dd, dd, .int (iv ((0 : Nat) : Int))] [] (em (sv (sv (sv (sv V 430 0 0) 430 1 c) 430 2 0) 430 3 w) J z) := by
    simp (disch := first | decide | omega | (simp (disch := first | decide | omega) only [sv_s, sv_o, ur_s, ur_e, ur_o]; omega)) only [↓reduceIte, iv_add, iv_sub, iv_mul, iv_neg, iv_ltT, iv_ltF, iv_leT, iv_leF, iv_eqT, iv_eqF, iv_div, iv_mod, ↓bnI_s, ↓bnV_s, ↓bnJ_s, ↓bnR_s, rt_e, rt_0, rt_bz, sv_s, sv_o, ur_s, ur_e, ur_o, bz_T, bz_F, nat_eqF, ↓q_Flier_ends, ↓pI_430_0 F, ↓pI_430_1 F, ↓pI_430_2 F, ↓pI_430_3 F, ↓gd_430 F, il_0, il_1, il_2, il_3, il_17, il_23]
    rfl
  rw [st]
  exact f2
end
