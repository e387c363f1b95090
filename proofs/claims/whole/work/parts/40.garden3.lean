/-! the calls of THE GARDEN -/
/-- a pair of calls that only answers: both answer alike, nothing that counts is changed -/
def Pq (V J : Vm) (z : Zz) (X M : Mem → Rs) : Prop := ∃ e V1 J1 V2 J2, X (em V J z) = some (.int (iv e), em V1 J1 z) ∧ core V1 = core V ∧ M (em V1 J1 z) = some (.int (iv e), em V2 J2 z) ∧ core V2 = core V
theorem Hed.HD {V : Vm} (h : Hed V 9 (V 436)) : HD (V 19) := fun k h0 h1 => by
  obtain ⟨a, b⟩ := h k h0 h1
  have a : V 19 k = V 436 (71 + k) := a
  rw [a]; exact b
theorem Hed.D {V V1 : Vm} (h : Hed V 9 (V 436)) (c : core V1 = core V) : ∀ k, 0 ≤ k → k < 36 → V1 436 (71 + k) = V 19 k := fun k h0 h1 => by
  rw [core_cl c (a := 436) (by omega)]
  exact (h k h0 h1).1.symm
section
variable {V J : Vm} {z : Zz}
theorem core_430 {V V' : Vm} (h : ∀ a, a ≠ 430 → V' a = V a) : core V' = core V := core_ext fun a k hs => by
  by_cases e : a = 430
  · rw [e, scr_T (by omega)] at hs; cases hs
  · rw [h a e]
theorem p_flight (F : Fix z) (hH : Hed V 9 (V 436)) {c w k : Int} (hc : (-2147483648 ≤ c ∧ c < 2147483648)) (hw : (-2147483648 ≤ w ∧ w < 2147483648)) (hk : (-2147483648 ≤ k ∧ k < 2147483648)) : Pq V J z (fun h => cA m_X_flight [.ref 8, .int (iv c), .int (iv w), .int (iv k)] h) (fun h => cA m_M_flight [.ref 435, .int (iv c), .int (iv w), .int (iv k)] h) := by
  by_cases h1 : 0 ≤ c ∧ c ≤ 35
  · by_cases h2 : 0 ≤ w ∧ w ≤ 3
    · obtain ⟨V1, f1, f2⟩ := y_ends (J := J) F hH.HD (c := c) (w := w) (by omega) (by omega)
      have c1 := core_430 f1
      obtain ⟨V2, c2, g2⟩ := y_flown (J := J) F hH.HD (hH.D c1) (c := c) (w := w) (by omega) (by omega)
      rcases f2 with ⟨N, n0, n1, n2, n3, n4, n5⟩ | ⟨n0, n5⟩
      · rcases g2 with ⟨M, m0, m1, m2, m3, m4, m5⟩ | ⟨m0, m5⟩
        · have e := fin_u n0 m0
          subst e
          by_cases k0 : 0 ≤ k ∧ k ≤ 3
          · rcases w4 (w := k) (by omega) with rfl | rfl | rfl | rfl
            · exact ⟨_, V1, J, V2, J, (by simp (disch := first | decide | omega | (simp (disch := first | decide | omega) only [sv_s, sv_o, ur_s, ur_e, ur_o]; omega)) only [↓reduceIte, iv_add, iv_sub, iv_mul, iv_neg, iv_ltT, iv_ltF, iv_leT, iv_leF, iv_eqT, iv_eqF, iv_div, iv_mod, ↓bnI_s, ↓bnV_s, ↓bnJ_s, ↓bnR_s, rt_e, rt_0, rt_bz, sv_s, sv_o, ur_s, ur_e, ur_o, bz_T, bz_F, nat_eqF, ↓q_X_flight, ↓gR_8_7 F, ↓gR_8_0 F, ↓gR_9_4 F, ↓gI_430_0 F, ↓gI_430_1 F, ↓gI_430_2 F, ↓gI_430_3 F, ↓gd_8 F, il_0, il_1, il_2, il_3, il_4, il_7, il_10, il_26, il_35, y_within, n5]; rfl), c1, (by simp (disch := first | decide | omega | (simp (disch := first | decide | omega) only [sv_s, sv_o, ur_s, ur_e, ur_o]; omega)) only [↓reduceIte, iv_add, iv_sub, iv_mul, iv_neg, iv_ltT, iv_ltF, iv_leT, iv_leF, iv_eqT, iv_eqF, iv_div, iv_mod, ↓bnI_s, ↓bnV_s, ↓bnJ_s, ↓bnR_s, rt_e, rt_0, rt_bz, sv_s, sv_o, ur_s, ur_e, ur_o, bz_T, bz_F, nat_eqF, ↓q_M_flight, ↓gI_435_32 F, ↓gI_435_33 F, ↓gI_435_34 F, ↓gI_435_35 F, ↓gd_435 F, il_0, il_1, il_2, il_3, il_11, il_27, il_32, il_33, il_34, il_35, y_isFlight, y_isIn, m5, n1, m1]), c2.trans c1⟩
            · exact ⟨_, V1, J, V2, J, (by simp (disch := first | decide | omega | (simp (disch := first | decide | omega) only [sv_s, sv_o, ur_s, ur_e, ur_o]; omega)) only [↓reduceIte, iv_add, iv_sub, iv_mul, iv_neg, iv_ltT, iv_ltF, iv_leT, iv_leF, iv_eqT, iv_eqF, iv_div, iv_mod, ↓bnI_s, ↓bnV_s, ↓bnJ_s, ↓bnR_s, rt_e, rt_0, rt_bz, sv_s, sv_o, ur_s, ur_e, ur_o, bz_T, bz_F, nat_eqF, ↓q_X_flight, ↓gR_8_7 F, ↓gR_8_0 F, ↓gR_9_4 F, ↓gI_430_0 F, ↓gI_430_1 F, ↓gI_430_2 F, ↓gI_430_3 F, ↓gd_8 F, il_0, il_1, il_2, il_3, il_4, il_7, il_10, il_26, il_35, y_within, n5]; rfl), c1, (by simp (disch := first | decide | omega | (simp (disch := first | decide | omega) only [sv_s, sv_o, ur_s, ur_e, ur_o]; omega)) only [↓reduceIte, iv_add, iv_sub, iv_mul, iv_neg, iv_ltT, iv_ltF, iv_leT, iv_leF, iv_eqT, iv_eqF, iv_div, iv_mod, ↓bnI_s, ↓bnV_s, ↓bnJ_s, ↓bnR_s, rt_e, rt_0, rt_bz, sv_s, sv_o, ur_s, ur_e, ur_o, bz_T, bz_F, nat_eqF, ↓q_M_flight, ↓gI_435_32 F, ↓gI_435_33 F, ↓gI_435_34 F, ↓gI_435_35 F, ↓gd_435 F, il_0, il_1, il_2, il_3, il_11, il_27, il_32, il_33, il_34, il_35, y_isFlight, y_isIn, m5, n2, m2]), c2.trans c1⟩
            · exact ⟨_, V1, J, V2, J, (by simp (disch := first | decide | omega | (simp (disch := first | decide | omega) only [sv_s, sv_o, ur_s, ur_e, ur_o]; omega)) only [↓reduceIte, iv_add, iv_sub, iv_mul, iv_neg, iv_ltT, iv_ltF, iv_leT, iv_leF, iv_eqT, iv_eqF, iv_div, iv_mod, ↓bnI_s, ↓bnV_s, ↓bnJ_s, ↓bnR_s, rt_e, rt_0, rt_bz, sv_s, sv_o, ur_s, ur_e, ur_o, bz_T, bz_F, nat_eqF, ↓q_X_flight, ↓gR_8_7 F, ↓gR_8_0 F, ↓gR_9_4 F, ↓gI_430_0 F, ↓gI_430_1 F, ↓gI_430_2 F, ↓gI_430_3 F, ↓gd_8 F, il_0, il_1, il_2, il_3, il_4, il_7, il_10, il_26, il_35, y_within, n5]; rfl), c1, (by simp (disch := first | decide | omega | (simp (disch := first | decide | omega) only [sv_s, sv_o, ur_s, ur_e, ur_o]; omega)) only [↓reduceIte, iv_add, iv_sub, iv_mul, iv_neg, iv_ltT, iv_ltF, iv_leT, iv_leF, iv_eqT, iv_eqF, iv_div, iv_mod, ↓bnI_s, ↓bnV_s, ↓bnJ_s, ↓bnR_s, rt_e, rt_0, rt_bz, sv_s, sv_o, ur_s, ur_e, ur_o, bz_T, bz_F, nat_eqF, ↓q_M_flight, ↓gI_435_32 F, ↓gI_435_33 F, ↓gI_435_34 F, ↓gI_435_35 F, ↓gd_435 F, il_0, il_1, il_2, il_3, il_11, il_27, il_32, il_33, il_34, il_35, y_isFlight, y_isIn, m5, n3, m3]), c2.trans c1⟩
            · exact ⟨_, V1, J, V2, J, (by simp (disch := first | decide | omega | (simp (disch := first | decide | omega) only [sv_s, sv_o, ur_s, ur_e, ur_o]; omega)) only [↓reduceIte, iv_add, iv_sub, iv_mul, iv_neg, iv_ltT, iv_ltF, iv_leT, iv_leF, iv_eqT, iv_eqF, iv_div, iv_mod, ↓bnI_s, ↓bnV_s, ↓bnJ_s, ↓bnR_s, rt_e, rt_0, rt_bz, sv_s, sv_o, ur_s, ur_e, ur_o, bz_T, bz_F, nat_eqF, ↓q_X_flight, ↓gR_8_7 F, ↓gR_8_0 F, ↓gR_9_4 F, ↓gI_430_0 F, ↓gI_430_1 F, ↓gI_430_2 F, ↓gI_430_3 F, ↓gd_8 F, il_0, il_1, il_2, il_3, il_4, il_7, il_10, il_26, il_35, y_within, n5]; rfl), c1, (by simp (disch := first | decide | omega | (simp (disch := first | decide | omega) only [sv_s, sv_o, ur_s, ur_e, ur_o]; omega)) only [↓reduceIte, iv_add, iv_sub, iv_mul, iv_neg, iv_ltT, iv_ltF, iv_leT, iv_leF, iv_eqT, iv_eqF, iv_div, iv_mod, ↓bnI_s, ↓bnV_s, ↓bnJ_s, ↓bnR_s, rt_e, rt_0, rt_bz, sv_s, sv_o, ur_s, ur_e, ur_o, bz_T, bz_F, nat_eqF, ↓q_M_flight, ↓gI_435_32 F, ↓gI_435_33 F, ↓gI_435_34 F, ↓gI_435_35 F, ↓gd_435 F, il_0, il_1, il_2, il_3, il_11, il_27, il_32, il_33, il_34, il_35, y_isFlight, y_isIn, m5, n4, m4]), c2.trans c1⟩
          · exact ⟨-1, V1, J, V1, J, (by simp (disch := first | decide | omega | (simp (disch := first | decide | omega) only [sv_s, sv_o, ur_s, ur_e, ur_o]; omega)) only [↓reduceIte, iv_add, iv_sub, iv_mul, iv_neg, iv_ltT, iv_ltF, iv_leT, iv_leF, iv_eqT, iv_eqF, iv_div, iv_mod, ↓bnI_s, ↓bnV_s, ↓bnJ_s, ↓bnR_s, rt_e, rt_0, rt_bz, sv_s, sv_o, ur_s, ur_e, ur_o, bz_T, bz_F, nat_eqF, ↓q_X_flight, ↓gR_8_7 F, ↓gR_8_0 F, ↓gR_9_4 F, ↓gI_430_0 F, ↓gI_430_1 F, ↓gI_430_2 F, ↓gI_430_3 F, ↓gd_8 F, il_0, il_1, il_2, il_3, il_4, il_7, il_10, il_26, il_35, y_within, n5]), c1, (by simp (disch := first | decide | omega | (simp (disch := first | decide | omega) only [sv_s, sv_o, ur_s, ur_e, ur_o]; omega)) only [↓reduceIte, iv_add, iv_sub, iv_mul, iv_neg, iv_ltT, iv_ltF, iv_leT, iv_leF, iv_eqT, iv_eqF, iv_div, iv_mod, ↓bnI_s, ↓bnV_s, ↓bnJ_s, ↓bnR_s, rt_e, rt_0, rt_bz, sv_s, sv_o, ur_s, ur_e, ur_o, bz_T, bz_F, nat_eqF, ↓q_M_flight, ↓gI_435_32 F, ↓gI_435_33 F, ↓gI_435_34 F, ↓gI_435_35 F, ↓gd_435 F, il_0, il_1, il_2, il_3, il_11, il_27, il_32, il_33, il_34, il_35, y_isFlight, y_isIn]), c1⟩
        · exact absurd (m0 N) n0.2.2
      · rcases g2 with ⟨M, m0, m1, m2, m3, m4, m5⟩ | ⟨m0, m5⟩
        · exact absurd (n0 M (by have := m0.1; omega)) m0.2.2
        · by_cases k0 : 0 ≤ k ∧ k ≤ 3
          · exact ⟨-1, V1, J, V2, J, (by simp (disch := first | decide | omega | (simp (disch := first | decide | omega) only [sv_s, sv_o, ur_s, ur_e, ur_o]; omega)) only [↓reduceIte, iv_add, iv_sub, iv_mul, iv_neg, iv_ltT, iv_ltF, iv_leT, iv_leF, iv_eqT, iv_eqF, iv_div, iv_mod, ↓bnI_s, ↓bnV_s, ↓bnJ_s, ↓bnR_s, rt_e, rt_0, rt_bz, sv_s, sv_o, ur_s, ur_e, ur_o, bz_T, bz_F, nat_eqF, ↓q_X_flight, ↓gR_8_7 F, ↓gR_8_0 F, ↓gR_9_4 F, ↓gI_430_0 F, ↓gI_430_1 F, ↓gI_430_2 F, ↓gI_430_3 F, ↓gd_8 F, il_0, il_1, il_2, il_3, il_4, il_7, il_10, il_26, il_35, y_within, n5]), c1, (by simp (disch := first | decide | omega | (simp (disch := first | decide | omega) only [sv_s, sv_o, ur_s, ur_e, ur_o]; omega)) only [↓reduceIte, iv_add, iv_sub, iv_mul, iv_neg, iv_ltT, iv_ltF, iv_leT, iv_leF, iv_eqT, iv_eqF, iv_div, iv_mod, ↓bnI_s, ↓bnV_s, ↓bnJ_s, ↓bnR_s, rt_e, rt_0, rt_bz, sv_s, sv_o, ur_s, ur_e, ur_o, bz_T, bz_F, nat_eqF, ↓q_M_flight, ↓gI_435_32 F, ↓gI_435_33 F, ↓gI_435_34 F, ↓gI_435_35 F, ↓gd_435 F, il_0, il_1, il_2, il_3, il_11, il_27, il_32, il_33, il_34, il_35, y_isFlight, y_isIn, m5]), c2.trans c1⟩
          · exact ⟨-1, V1, J, V1, J, (by simp (disch := first | decide | omega | (simp (disch := first | decide | omega) only [sv_s, sv_o, ur_s, ur_e, ur_o]; omega)) only [↓reduceIte, iv_add, iv_sub, iv_mul, iv_neg, iv_ltT, iv_ltF, iv_leT, iv_leF, iv_eqT, iv_eqF, iv_div, iv_mod, ↓bnI_s, ↓bnV_s, ↓bnJ_s, ↓bnR_s, rt_e, rt_0, rt_bz, sv_s, sv_o, ur_s, ur_e, ur_o, bz_T, bz_F, nat_eqF, ↓q_X_flight, ↓gR_8_7 F, ↓gR_8_0 F, ↓gR_9_4 F, ↓gI_430_0 F, ↓gI_430_1 F, ↓gI_430_2 F, ↓gI_430_3 F, ↓gd_8 F, il_0, il_1, il_2, il_3, il_4, il_7, il_10, il_26, il_35, y_within, n5]), c1, (by simp (disch := first | decide | omega | (simp (disch := first | decide | omega) only [sv_s, sv_o, ur_s, ur_e, ur_o]; omega)) only [↓reduceIte, iv_add, iv_sub, iv_mul, iv_neg, iv_ltT, iv_ltF, iv_leT, iv_leF, iv_eqT, iv_eqF, iv_div, iv_mod, ↓bnI_s, ↓bnV_s, ↓bnJ_s, ↓bnR_s, rt_e, rt_0, rt_bz, sv_s, sv_o, ur_s, ur_e, ur_o, bz_T, bz_F, nat_eqF, ↓q_M_flight, ↓gI_435_32 F, ↓gI_435_33 F, ↓gI_435_34 F, ↓gI_435_35 F, ↓gd_435 F, il_0, il_1, il_2, il_3, il_11, il_27, il_32, il_33, il_34, il_35, y_isFlight, y_isIn]), c1⟩
    · exact ⟨-1, V, J, V, J, (by simp (disch := first | decide | omega | (simp (disch := first | decide | omega) only [sv_s, sv_o, ur_s, ur_e, ur_o]; omega)) only [↓reduceIte, iv_add, iv_sub, iv_mul, iv_neg, iv_ltT, iv_ltF, iv_leT, iv_leF, iv_eqT, iv_eqF, iv_div, iv_mod, ↓bnI_s, ↓bnV_s, ↓bnJ_s, ↓bnR_s, rt_e, rt_0, rt_bz, sv_s, sv_o, ur_s, ur_e, ur_o, bz_T, bz_F, nat_eqF, ↓q_X_flight, ↓gR_8_7 F, ↓gR_8_0 F, ↓gR_9_4 F, ↓gI_430_0 F, ↓gI_430_1 F, ↓gI_430_2 F, ↓gI_430_3 F, ↓gd_8 F, il_0, il_1, il_2, il_3, il_4, il_7, il_10, il_26, il_35, y_within]), rfl, (by simp (disch := first | decide | omega | (simp (disch := first | decide | omega) only [sv_s, sv_o, ur_s, ur_e, ur_o]; omega)) only [↓reduceIte, iv_add, iv_sub, iv_mul, iv_neg, iv_ltT, iv_ltF, iv_leT, iv_leF, iv_eqT, iv_eqF, iv_div, iv_mod, ↓bnI_s, ↓bnV_s, ↓bnJ_s, ↓bnR_s, rt_e, rt_0, rt_bz, sv_s, sv_o, ur_s, ur_e, ur_o, bz_T, bz_F, nat_eqF, ↓q_M_flight, ↓gI_435_32 F, ↓gI_435_33 F, ↓gI_435_34 F, ↓gI_435_35 F, ↓gd_435 F, il_0, il_1, il_2, il_3, il_11, il_27, il_32, il_33, il_34, il_35, y_isFlight]), rfl⟩
  · exact ⟨-1, V, J, V, J, (by simp (disch := first | decide | omega | (simp (disch := first | decide | omega) only [sv_s, sv_o, ur_s, ur_e, ur_o]; omega)) only [↓reduceIte, iv_add, iv_sub, iv_mul, iv_neg, iv_ltT, iv_ltF, iv_leT, iv_leF, iv_eqT, iv_eqF, iv_div, iv_mod, ↓bnI_s, ↓bnV_s, ↓bnJ_s, ↓bnR_s, rt_e, rt_0, rt_bz, sv_s, sv_o, ur_s, ur_e, ur_o, bz_T, bz_F, nat_eqF, ↓q_X_flight, ↓gR_8_7 F, ↓gR_8_0 F, ↓gR_9_4 F, ↓gI_430_0 F, ↓gI_430_1 F, ↓gI_430_2 F, ↓gI_430_3 F, ↓gd_8 F, il_0, il_1, il_2, il_3, il_4, il_7, il_10, il_26, il_35, y_within]), rfl, (by simp (disch := first | decide | omega | (simp (disch := first | decide | omega) only [sv_s, sv_o, ur_s, ur_e, ur_o]; omega)) only [↓reduceIte, iv_add, iv_sub, iv_mul, iv_neg, iv_ltT, iv_ltF, iv_leT, iv_leF, iv_eqT, iv_eqF, iv_div, iv_mod, ↓bnI_s, ↓bnV_s, ↓bnJ_s, ↓bnR_s, rt_e, rt_0, rt_bz, sv_s, sv_o, ur_s, ur_e, ur_o, bz_T, bz_F, nat_eqF, ↓q_M_flight, ↓gI_435_32 F, ↓gI_435_33 F, ↓gI_435_34 F, ↓gI_435_35 F, ↓gd_435 F, il_0, il_1, il_2, il_3, il_11, il_27, il_32, il_33, il_34, il_35, y_isFlight]), rfl⟩
theorem fe_rg {D : Int → Int} {c w : Int} (h : HD D) (hc : 0 ≤ c ∧ c < 36) (hw : 0 ≤ w ∧ w < 4) {N : Nat} (hN : ∀ l, l < N → go D c w l) : (-1 ≤ (fe D c w N).2.1 ∧ (fe D c w N).2.1 < 36) ∧ (0 ≤ (fe D c w N).2.2.2 ∧ (fe D c w N).2.2.2 < 4) := by
  have r := fs_rg h hc hw N hN
  unfold fe
  split
  · show (-1 ≤ (fs D c w N).1 ∧ (fs D c w N).1 < 36) ∧ (0 ≤ (fs D c w N).2.1 ∧ (fs D c w N).2.1 < 4)
    omega
  · show (-1 ≤ nb (fs D c w N).1 (fs D c w N).2.1 ∧ nb (fs D c w N).1 (fs D c w N).2.1 < 36) ∧ (0 ≤ (fs D c w N).2.1 ∧ (fs D c w N).2.1 < 4)
    have q := nb_rg (w := (fs D c w N).2.1) r.1
    omega
/-- a flight from the rim ends in that CELL by that WAY -/
def hit (D : Int → Int) (c w k : Int) : Prop := ∃ N, fin D (k % 36) (k / 36) N ∧ (fe D (k % 36) (k / 36) N).2.1 = c ∧ (fe D (k % 36) (k / 36) N).2.2.2 = w
def rim (a i : Int) : Int := if a = 0 then 30 + i else if a = 1 then 6 * i else if a = 2 then i else 6 * i + 6 - 1
theorem rim_rg {a i : Int} (hi : 0 ≤ i ∧ i < 6) : 0 ≤ rim a i ∧ rim a i < 36 := by
  unfold rim
  repeat' split
  all_goals omega
theorem y_rim {a i : Int} {h : Mem} (ha : 0 ≤ a ∧ a < 4) : cA m_Flier_rimCell [.int (iv a), .int (iv i)] h = some (.int (iv (rim a i)), h) := by
  unfold rim
  rcases w4 ha with rfl | rfl | rfl | rfl
  · rw [if_pos rfl]; simp (disch := first | decide | omega | (simp (disch := first | decide | omega) only [sv_s, sv_o, ur_s, ur_e, ur_o]; omega)) only [↓reduceIte, iv_add, iv_sub, iv_mul, iv_neg, iv_ltT, iv_ltF, iv_leT, iv_leF, iv_eqT, iv_eqF, iv_div, iv_mod, ↓bnI_s, ↓bnV_s, ↓bnJ_s, ↓bnR_s, rt_e, rt_0, rt_bz, sv_s, sv_o, ur_s, ur_e, ur_o, bz_T, bz_F, nat_eqF, ↓q_Flier_rimCell, il_0, il_1, il_2, il_6, il_30]
  · rw [if_neg (by decide), if_pos rfl]; simp (disch := first | decide | omega | (simp (disch := first | decide | omega) only [sv_s, sv_o, ur_s, ur_e, ur_o]; omega)) only [↓reduceIte, iv_add, iv_sub, iv_mul, iv_neg, iv_ltT, iv_ltF, iv_leT, iv_leF, iv_eqT, iv_eqF, iv_div, iv_mod, ↓bnI_s, ↓bnV_s, ↓bnJ_s, ↓bnR_s, rt_e, rt_0, rt_bz, sv_s, sv_o, ur_s, ur_e, ur_o, bz_T, bz_F, nat_eqF, ↓q_Flier_rimCell, il_0, il_1, il_2, il_6, il_30]
  · rw [if_neg (by decide), if_neg (by decide), if_pos rfl]; simp (disch := first | decide | omega | (simp (disch := first | decide | omega) only [sv_s, sv_o, ur_s, ur_e, ur_o]; omega)) only [↓reduceIte, iv_add, iv_sub, iv_mul, iv_neg, iv_ltT, iv_ltF, iv_leT, iv_leF, iv_eqT, iv_eqF, iv_div, iv_mod, ↓bnI_s, ↓bnV_s, ↓bnJ_s, ↓bnR_s, rt_e, rt_0, rt_bz, sv_s, sv_o, ur_s, ur_e, ur_o, bz_T, bz_F, nat_eqF, ↓q_Flier_rimCell, il_0, il_1, il_2, il_6, il_30]
  · rw [if_neg (by decide), if_neg (by decide), if_neg (by decide)]; simp (disch := first | decide | omega | (simp (disch := first | decide | omega) only [sv_s, sv_o, ur_s, ur_e, ur_o]; omega)) only [↓reduceIte, iv_add, iv_sub, iv_mul, iv_neg, iv_ltT, iv_ltF, iv_leT, iv_leF, iv_eqT, iv_eqF, iv_div, iv_mod, ↓bnI_s, ↓bnV_s, ↓bnJ_s, ↓bnR_s, rt_e, rt_0, rt_bz, sv_s, sv_o, ur_s, ur_e, ur_o, bz_T, bz_F, nat_eqF, ↓q_Flier_rimCell, il_0, il_1, il_2, il_6, il_30]
theorem y_comes_i (F : Fix z) {D : Int → Int} (h : HD D) {c w a : Int} (hc : 0 ≤ c ∧ c < 36) (hw : 0 ≤ w ∧ w < 4) (ha : 0 ≤ a ∧ a < 4) : ∀ (m : Nat) (i : Int) (V : Vm), V 19 = D → 0 ≤ i → i + m = 6 → ∃ V', core V' = core V ∧ ((∃ j, i ≤ j ∧ j < 6 ∧ hit D c w (36 * a + rim a j) ∧ (∀ l, i ≤ l → l < j → ¬ hit D c w (36 * a + rim a l)) ∧ rX m_X_comes m_X_comes 31 [.ref 8, .int (iv c), .int (iv w), .int (iv a), .int (iv i), dd] [] (em V J z) = some (.int (iv (36 * a + rim a j)), em V' J z)) ∨ ((∀ l, i ≤ l → l < 6 → ¬ hit D c w (36 * a + rim a l)) ∧ rX m_X_comes m_X_comes 31 [.ref 8, .int (iv c), .int (iv w), .int (iv a), .int (iv i), dd] [] (em V J z) = rX m_X_comes m_X_comes 23 [.ref 8, .int (iv c), .int (iv w), .int (iv (a + 1)), dd, dd] [] (em V' J z))) := by
  intro m
  induction m with
  | zero =>
    intro i V hD h0 hi
    refine ⟨V, rfl, Or.inr ⟨fun l h1 h2 => absurd h2 (by omega), ?_⟩⟩
    (rw [q_X_comes_31]; simp (disch := first | decide | omega | (simp (disch := first | decide | omega) only [sv_s, sv_o, ur_s, ur_e, ur_o]; omega)) only [↓reduceIte, iv_add, iv_sub, iv_mul, iv_neg, iv_ltT, iv_ltF, iv_leT, iv_leF, iv_eqT, iv_eqF, iv_div, iv_mod, ↓bnI_s, ↓bnV_s, ↓bnJ_s, ↓bnR_s, rt_e, rt_0, rt_bz, sv_s, sv_o, ur_s, ur_e, ur_o, bz_T, bz_F, nat_eqF, ↓gR_8_7 F, ↓gR_8_0 F, ↓gR_9_4 F, ↓gI_430_1 F, ↓gI_430_3 F, il_0, il_1, il_2, il_3, il_4, il_6, il_7, il_10, il_23, il_31, il_36])
  | succ m ih =>
    intro i V hD h0 hi
    have r := rim_rg (a := a) (i := i) (by omega)
    obtain ⟨V1, f1, f2⟩ := y_ends (V := V) (J := J) F (by rw [hD]; exact h) (c := rim a i) (w := a) r ha
    have c1 := core_430 f1
    have hD1 : V1 19 = D := (f1 19 (by decide)).trans hD
    rw [hD] at f2
    obtain ⟨V', c2, g⟩ := ih (i + 1) V1 hD1 (by omega) (by omega)
    have em1 : (36 * a + rim a i) % 36 = rim a i := by omega
    have em2 : (36 * a + rim a i) / 36 = a := by omega
    -- what follows where this one is no hit
    have nx : (¬ hit D c w (36 * a + rim a i)) → rX m_X_comes m_X_comes 31 [.ref 8, .int (iv c), .int (iv w), .int (iv a), .int (iv i), dd] [] (em V J z) = rX m_X_comes m_X_comes 31 [.ref 8, .int (iv c), .int (iv w), .int (iv a), .int (iv (i + 1)), dd] [] (em V1 J z) → ∃ V', core V' = core V ∧ ((∃ j, i ≤ j ∧ j < 6 ∧ hit D c w (36 * a + rim a j) ∧ (∀ l, i ≤ l → l < j → ¬ hit D c w (36 * a + rim a l)) ∧ rX m_X_comes m_X_comes 31 [.ref 8, .int (iv c), .int (iv w), .int (iv a), .int (iv i), dd] [] (em V J z) = some (.int (iv (36 * a + rim a j)), em V' J z)) ∨ ((∀ l, i ≤ l → l < 6 → ¬ hit D c w (36 * a + rim a l)) ∧ rX m_X_comes m_X_comes 31 [.ref 8, .int (iv c), .int (iv w), .int (iv a), .int (iv i), dd] [] (em V J z) = rX m_X_comes m_X_comes 23 [.ref 8, .int (iv c), .int (iv w), .int (iv (a + 1)), dd, dd] [] (em V' J z))) := by
      intro nh st
      have al : ∀ l, i ≤ l → (l = i ∨ i + 1 ≤ l) := fun l hl => by omega
      refine ⟨V', c2.trans c1, ?_⟩
      rw [st]
      rcases g with ⟨j, j1, j2, j3, j4, j5⟩ | ⟨j4, j5⟩
      · refine Or.inl ⟨j, by omega, j2, j3, fun l l1 l2 => ?_, j5⟩
        rcases al l l1 with e | e
        · rw [e]; exact nh
        · exact j4 l e l2
      · refine Or.inr ⟨fun l l1 l2 => ?_, j5⟩
        rcases al l l1 with e | e
        · rw [e]; exact nh
        · exact j4 l e l2
    rcases f2 with ⟨N, n0, n1, n2, n3, n4, n5⟩ | ⟨n0, n5⟩
    · by_cases e1 : V1 430 1 = c
      · by_cases e2 : V1 430 3 = w
        · refine ⟨V1, c1, Or.inl ⟨i, by omega, by omega, ⟨N, by rw [em1, em2]; exact n0, by rw [em1, em2, ← n2]; exact e1, by rw [em1, em2, ← n4]; exact e2⟩, fun l l1 l2 => absurd l2 (by omega), ?_⟩⟩
          (rw [q_X_comes_31]; simp (disch := first | decide | omega | (simp (disch := first | decide | omega) only [sv_s, sv_o, ur_s, ur_e, ur_o]; omega)) only [↓reduceIte, iv_add, iv_sub, iv_mul, iv_neg, iv_ltT, iv_ltF, iv_leT, iv_leF, iv_eqT, iv_eqF, iv_div, iv_mod, ↓bnI_s, ↓bnV_s, ↓bnJ_s, ↓bnR_s, rt_e, rt_0, rt_bz, sv_s, sv_o, ur_s, ur_e, ur_o, bz_T, bz_F, nat_eqF, ↓gR_8_7 F, ↓gR_8_0 F, ↓gR_9_4 F, ↓gI_430_1 F, ↓gI_430_3 F, il_0, il_1, il_2, il_3, il_4, il_6, il_7, il_10, il_23, il_31, il_36, y_rim, n5, e1, e2])
        · refine nx (fun ⟨M, m0, _, m2⟩ => ?_) ?_
          · rw [em1, em2] at m0 m2
            rw [← fin_u n0 m0, ← n4] at m2
            exact e2 m2
          · have r3 : 0 ≤ V1 430 3 ∧ V1 430 3 < 4 := by rw [n4]; exact (fe_rg h r ha n0.2.1).2
            (rw [q_X_comes_31]; simp (disch := first | decide | omega | (simp (disch := first | decide | omega) only [sv_s, sv_o, ur_s, ur_e, ur_o]; omega)) only [↓reduceIte, iv_add, iv_sub, iv_mul, iv_neg, iv_ltT, iv_ltF, iv_leT, iv_leF, iv_eqT, iv_eqF, iv_div, iv_mod, ↓bnI_s, ↓bnV_s, ↓bnJ_s, ↓bnR_s, rt_e, rt_0, rt_bz, sv_s, sv_o, ur_s, ur_e, ur_o, bz_T, bz_F, nat_eqF, ↓gR_8_7 F, ↓gR_8_0 F, ↓gR_9_4 F, ↓gI_430_1 F, ↓gI_430_3 F, il_0, il_1, il_2, il_3, il_4, il_6, il_7, il_10, il_23, il_31, il_36, y_rim, n5, e1])
      · refine nx (fun ⟨M, m0, m1, _⟩ => ?_) ?_
        · rw [em1, em2] at m0 m1
          rw [← fin_u n0 m0, ← n2] at m1
          exact e1 m1
        · have r1 : -1 ≤ V1 430 1 ∧ V1 430 1 < 36 := by rw [n2]; exact (fe_rg h r ha n0.2.1).1
          (rw [q_X_comes_31]; simp (disch := first | decide | omega | (simp (disch := first | decide | omega) only [sv_s, sv_o, ur_s, ur_e, ur_o]; omega)) only [↓reduceIte, iv_add, iv_sub, iv_mul, iv_neg, iv_ltT, iv_ltF, iv_leT, iv_leF, iv_eqT, iv_eqF, iv_div, iv_mod, ↓bnI_s, ↓bnV_s, ↓bnJ_s, ↓bnR_s, rt_e, rt_0, rt_bz, sv_s, sv_o, ur_s, ur_e, ur_o, bz_T, bz_F, nat_eqF, ↓gR_8_7 F, ↓gR_8_0 F, ↓gR_9_4 F, ↓gI_430_1 F, ↓gI_430_3 F, il_0, il_1, il_2, il_3, il_4, il_6, il_7, il_10, il_23, il_31, il_36, y_rim, n5])
    · refine nx (fun ⟨M, m0, _⟩ => ?_) ?_
      · rw [em1, em2] at m0
        exact m0.2.2 (n0 M (by have := m0.1; omega))
      · (rw [q_X_comes_31]; simp (disch := first | decide | omega | (simp (disch := first | decide | omega) only [sv_s, sv_o, ur_s, ur_e, ur_o]; omega)) only [↓reduceIte, iv_add, iv_sub, iv_mul, iv_neg, iv_ltT, iv_ltF, iv_leT, iv_leF, iv_eqT, iv_eqF, iv_div, iv_mod, ↓bnI_s, ↓bnV_s, ↓bnJ_s, ↓bnR_s, rt_e, rt_0, rt_bz, sv_s, sv_o, ur_s, ur_e, ur_o, bz_T, bz_F, nat_eqF, ↓gR_8_7 F, ↓gR_8_0 F, ↓gR_9_4 F, ↓gI_430_1 F, ↓gI_430_3 F, il_0, il_1, il_2, il_3, il_4, il_6, il_7, il_10, il_23, il_31, il_36, y_rim, n5])
/-- how the class's search ends, from the rim a on -/
def CmR (D : Int → Int) (c w a e : Int) : Prop := (e = -1 ∧ ∀ b, a ≤ b → b < 4 → ∀ l, 0 ≤ l → l < 6 → ¬ hit D c w (36 * b + rim b l)) ∨ (∃ b j, a ≤ b ∧ b < 4 ∧ 0 ≤ j ∧ j < 6 ∧ e = 36 * b + rim b j ∧ hit D c w e ∧ (∀ l, 0 ≤ l → l < j → ¬ hit D c w (36 * b + rim b l)) ∧ ∀ b', a ≤ b' → b' < b → ∀ l, 0 ≤ l → l < 6 → ¬ hit D c w (36 * b' + rim b' l))
theorem y_comes_o (F : Fix z) {D : Int → Int} (h : HD D) {c w : Int} (hc : 0 ≤ c ∧ c < 36) (hw : 0 ≤ w ∧ w < 4) : ∀ (m : Nat) (a : Int) (V : Vm), V 19 = D → 0 ≤ a → a + m = 4 → ∃ e V', core V' = core V ∧ CmR D c w a e ∧ rX m_X_comes m_X_comes 23 [.ref 8, .int (iv c), .int (iv w), .int (iv a), dd, dd] [] (em V J z) = some (.int (iv e), em V' J z) := by
  intro m
  induction m with
  | zero =>
    intro a V hD h0 hi
    refine ⟨-1, V, rfl, Or.inl ⟨rfl, fun b h1 h2 => absurd h2 (by omega)⟩, ?_⟩
    (rw [q_X_comes_23]; simp (disch := first | decide | omega | (simp (disch := first | decide | omega) only [sv_s, sv_o, ur_s, ur_e, ur_o]; omega)) only [↓reduceIte, iv_add, iv_sub, iv_mul, iv_neg, iv_ltT, iv_ltF, iv_leT, iv_leF, iv_eqT, iv_eqF, iv_div, iv_mod, ↓bnI_s, ↓bnV_s, ↓bnJ_s, ↓bnR_s, rt_e, rt_0, rt_bz, sv_s, sv_o, ur_s, ur_e, ur_o, bz_T, bz_F, nat_eqF, il_0, il_1, il_4, il_23, il_31])
  | succ m ih =>
    intro a V hD h0 hi
    have st : rX m_X_comes m_X_comes 23 [.ref 8, .int (iv c), .int (iv w), .int (iv a), dd, dd] [] (em V J z) = rX m_X_comes m_X_comes 31 [.ref 8, .int (iv c), .int (iv w), .int (iv a), .int (iv 0), dd] [] (em V J z) := by
      (rw [q_X_comes_23]; simp (disch := first | decide | omega | (simp (disch := first | decide | omega) only [sv_s, sv_o, ur_s, ur_e, ur_o]; omega)) only [↓reduceIte, iv_add, iv_sub, iv_mul, iv_neg, iv_ltT, iv_ltF, iv_leT, iv_leF, iv_eqT, iv_eqF, iv_div, iv_mod, ↓bnI_s, ↓bnV_s, ↓bnJ_s, ↓bnR_s, rt_e, rt_0, rt_bz, sv_s, sv_o, ur_s, ur_e, ur_o, bz_T, bz_F, nat_eqF, il_0, il_1, il_4, il_23, il_31])
    rw [st]
    obtain ⟨V1, c1, f⟩ := y_comes_i (J := J) F h hc hw (a := a) (by omega) 6 0 V hD (by omega) (by omega)
    rcases f with ⟨j, j1, j2, j3, j4, j5⟩ | ⟨j4, j5⟩
    · exact ⟨_, V1, c1, Or.inr ⟨a, j, by omega, by omega, j1, j2, rfl, j3, j4, fun b' h1 h2 => absurd h2 (by omega)⟩, j5⟩
    · obtain ⟨e, V', c2, g1, g2⟩ := ih (a + 1) V1 ((core_cl c1 (by omega)).trans hD) (by omega) (by omega)
      refine ⟨e, V', c2.trans c1, ?_, j5.trans g2⟩
      have al : ∀ b, a ≤ b → (b = a ∨ a + 1 ≤ b) := fun b hb => by omega
      rcases g1 with ⟨e1, k⟩ | ⟨b, j, k1, k2, k3, k4, k5, k6, k7, k8⟩
      · refine Or.inl ⟨e1, fun b h1 h2 l l1 l2 => ?_⟩
        rcases al b h1 with q | q
        · rw [q]; exact j4 l l1 l2
        · exact k b q h2 l l1 l2
      · refine Or.inr ⟨b, j, by omega, k2, k3, k4, k5, k6, k7, fun b' h1 h2 l l1 l2 => ?_⟩
        rcases al b' h1 with q | q
        · rw [q]; exact j4 l l1 l2
        · exact k8 b' q h2 l l1 l2
/-- inwards from a cell of the rim -/
def inw (k : Int) : Prop := if k / 36 = 0 then k % 36 / 6 = 5 else if k / 36 = 1 then k % 36 % 6 = 0 else if k / 36 = 2 then k % 36 / 6 = 0 else k % 36 % 6 = 5
theorem inw_of {k : Int} (hk : 0 ≤ k ∧ k < 144) (h : inw k) : ∃ a i, 0 ≤ a ∧ a < 4 ∧ 0 ≤ i ∧ i < 6 ∧ k = 36 * a + rim a i := by
  unfold inw at h
  rcases w4 (w := k / 36) (by omega) with q | q | q | q <;> rw [q] at h
  · rw [if_pos rfl] at h
    exact ⟨0, k % 36 - 30, by omega, by omega, by omega, by omega, by unfold rim; rw [if_pos rfl]; omega⟩
  · rw [if_neg (by decide), if_pos rfl] at h
    exact ⟨1, k % 36 / 6, by omega, by omega, by omega, by omega, by unfold rim; rw [if_neg (by decide), if_pos rfl]; omega⟩
  · rw [if_neg (by decide), if_neg (by decide), if_pos rfl] at h
    exact ⟨2, k % 36, by omega, by omega, by omega, by omega, by unfold rim; rw [if_neg (by decide), if_neg (by decide), if_pos rfl]; omega⟩
  · rw [if_neg (by decide), if_neg (by decide), if_neg (by decide)] at h
    exact ⟨3, k % 36 / 6, by omega, by omega, by omega, by omega, by unfold rim; rw [if_neg (by decide), if_neg (by decide), if_neg (by decide)]; omega⟩
theorem inw_rim {a i : Int} (ha : 0 ≤ a ∧ a < 4) (hi : 0 ≤ i ∧ i < 6) : inw (36 * a + rim a i) := by
  have r := rim_rg (a := a) hi
  unfold inw
  rw [show (36 * a + rim a i) / 36 = a by omega, show (36 * a + rim a i) % 36 = rim a i by omega]
  unfold rim
  rcases w4 ha with rfl | rfl | rfl | rfl
  · rw [if_pos rfl, if_pos rfl]; omega
  · rw [if_neg (by decide), if_pos rfl, if_neg (by decide), if_pos rfl]; omega
  · rw [if_neg (by decide), if_neg (by decide), if_pos rfl, if_neg (by decide), if_neg (by decide), if_pos rfl]; omega
  · rw [if_neg (by decide), if_neg (by decide), if_neg (by decide), if_neg (by decide), if_neg (by decide), if_neg (by decide)]; omega
theorem rim_mono {a i a' i' : Int} (hi : 0 ≤ i ∧ i < 6) (hi' : 0 ≤ i' ∧ i' < 6) (h : 36 * a' + rim a' i' < 36 * a + rim a i) : a' < a ∨ (a' = a ∧ i' < i) := by
  have r := rim_rg (a := a) hi
  have r' := rim_rg (a := a') hi'
  by_cases e : a' = a
  · subst e
    refine Or.inr ⟨rfl, ?_⟩
    unfold rim at h
    repeat' split at h
    all_goals omega
  · omega
/-- the first hit, by number -/
def Fhit (D : Int → Int) (c w s e : Int) : Prop := (e = -1 ∧ ∀ k, s ≤ k → k < 144 → inw k → ¬ hit D c w k) ∨ (s ≤ e ∧ e < 144 ∧ inw e ∧ hit D c w e ∧ ∀ k, s ≤ k → k < e → inw k → ¬ hit D c w k)
theorem CmR.first {D : Int → Int} {c w e : Int} (h : CmR D c w 0 e) : Fhit D c w 0 e := by
  rcases h with ⟨h1, h2⟩ | ⟨b, j, k1, k2, k3, k4, k5, k6, k7, k8⟩
  · refine Or.inl ⟨h1, fun k k0 k1 hk => ?_⟩
    obtain ⟨a, i, a0, a1, i0, i1, rfl⟩ := inw_of ⟨k0, k1⟩ hk
    exact h2 a a0 a1 i i0 i1
  · have r := rim_rg (a := b) ⟨k3, k4⟩
    refine Or.inr ⟨by omega, by omega, by rw [k5]; exact inw_rim ⟨k1, k2⟩ ⟨k3, k4⟩, k6, fun k l0 l1 hk => ?_⟩
    obtain ⟨a, i, a0, a1, i0, i1, rfl⟩ := inw_of ⟨l0, by omega⟩ hk
    rw [k5] at l1
    rcases rim_mono ⟨k3, k4⟩ ⟨i0, i1⟩ l1 with q | ⟨q, q2⟩
    · exact k8 a a0 q i i0 i1
    · subst q; exact k7 i i0 q2
theorem Fhit.u {D : Int → Int} {c w e e' : Int} (h : Fhit D c w 0 e) (h' : Fhit D c w 0 e') : e = e' := by
  rcases h with ⟨h1, h2⟩ | ⟨h1, h2, h3, h4, h5⟩ <;> rcases h' with ⟨g1, g2⟩ | ⟨g1, g2, g3, g4, g5⟩
  · omega
  · exact absurd g4 (h2 e' g1 g2 g3)
  · exact absurd h4 (g2 e h1 h2 h3)
  · rcases Int.lt_trichotomy e e' with q | q | q
    · exact absurd h4 (g5 e h1 q h3)
    · exact q
    · exact absurd g4 (h5 e' g1 q g3)
theorem y_isInwards {k : Int} {h : Mem} (hk : 0 ≤ k ∧ k < 144) : ∃ b : Int, (b = 0 ∨ b = 1) ∧ (b = 1 ↔ inw k) ∧ cA m_M_isInwards [.int (iv (k % 36)), .int (iv (k / 36))] h = some (.int (iv b), h) := by
  unfold inw
  rcases w4 (w := k / 36) (by omega) with q | q | q | q <;> rw [q]
  · rw [if_pos rfl]
    by_cases e : k % 36 / 6 = 5
    · exact ⟨1, by omega, by omega, by simp (disch := first | decide | omega | (simp (disch := first | decide | omega) only [sv_s, sv_o, ur_s, ur_e, ur_o]; omega)) only [↓reduceIte, iv_add, iv_sub, iv_mul, iv_neg, iv_ltT, iv_ltF, iv_leT, iv_leF, iv_eqT, iv_eqF, iv_div, iv_mod, ↓bnI_s, ↓bnV_s, ↓bnJ_s, ↓bnR_s, rt_e, rt_0, rt_bz, sv_s, sv_o, ur_s, ur_e, ur_o, bz_T, bz_F, nat_eqF, ↓q_M_isInwards, il_0, il_1, il_2, il_5, il_6, e]⟩
    · exact ⟨0, by omega, by omega, by simp (disch := first | decide | omega | (simp (disch := first | decide | omega) only [sv_s, sv_o, ur_s, ur_e, ur_o]; omega)) only [↓reduceIte, iv_add, iv_sub, iv_mul, iv_neg, iv_ltT, iv_ltF, iv_leT, iv_leF, iv_eqT, iv_eqF, iv_div, iv_mod, ↓bnI_s, ↓bnV_s, ↓bnJ_s, ↓bnR_s, rt_e, rt_0, rt_bz, sv_s, sv_o, ur_s, ur_e, ur_o, bz_T, bz_F, nat_eqF, ↓q_M_isInwards, il_0, il_1, il_2, il_5, il_6]⟩
  · rw [if_neg (by decide), if_pos rfl]
    by_cases e : k % 36 % 6 = 0
    · exact ⟨1, by omega, by omega, by simp (disch := first | decide | omega | (simp (disch := first | decide | omega) only [sv_s, sv_o, ur_s, ur_e, ur_o]; omega)) only [↓reduceIte, iv_add, iv_sub, iv_mul, iv_neg, iv_ltT, iv_ltF, iv_leT, iv_leF, iv_eqT, iv_eqF, iv_div, iv_mod, ↓bnI_s, ↓bnV_s, ↓bnJ_s, ↓bnR_s, rt_e, rt_0, rt_bz, sv_s, sv_o, ur_s, ur_e, ur_o, bz_T, bz_F, nat_eqF, ↓q_M_isInwards, il_0, il_1, il_2, il_5, il_6, e]⟩
    · exact ⟨0, by omega, by omega, by simp (disch := first | decide | omega | (simp (disch := first | decide | omega) only [sv_s, sv_o, ur_s, ur_e, ur_o]; omega)) only [↓reduceIte, iv_add, iv_sub, iv_mul, iv_neg, iv_ltT, iv_ltF, iv_leT, iv_leF, iv_eqT, iv_eqF, iv_div, iv_mod, ↓bnI_s, ↓bnV_s, ↓bnJ_s, ↓bnR_s, rt_e, rt_0, rt_bz, sv_s, sv_o, ur_s, ur_e, ur_o, bz_T, bz_F, nat_eqF, ↓q_M_isInwards, il_0, il_1, il_2, il_5, il_6]⟩
  · rw [if_neg (by decide), if_neg (by decide), if_pos rfl]
    by_cases e : k % 36 / 6 = 0
    · exact ⟨1, by omega, by omega, by simp (disch := first | decide | omega | (simp (disch := first | decide | omega) only [sv_s, sv_o, ur_s, ur_e, ur_o]; omega)) only [↓reduceIte, iv_add, iv_sub, iv_mul, iv_neg, iv_ltT, iv_ltF, iv_leT, iv_leF, iv_eqT, iv_eqF, iv_div, iv_mod, ↓bnI_s, ↓bnV_s, ↓bnJ_s, ↓bnR_s, rt_e, rt_0, rt_bz, sv_s, sv_o, ur_s, ur_e, ur_o, bz_T, bz_F, nat_eqF, ↓q_M_isInwards, il_0, il_1, il_2, il_5, il_6, e]⟩
    · exact ⟨0, by omega, by omega, by simp (disch := first | decide | omega | (simp (disch := first | decide | omega) only [sv_s, sv_o, ur_s, ur_e, ur_o]; omega)) only [↓reduceIte, iv_add, iv_sub, iv_mul, iv_neg, iv_ltT, iv_ltF, iv_leT, iv_leF, iv_eqT, iv_eqF, iv_div, iv_mod, ↓bnI_s, ↓bnV_s, ↓bnJ_s, ↓bnR_s, rt_e, rt_0, rt_bz, sv_s, sv_o, ur_s, ur_e, ur_o, bz_T, bz_F, nat_eqF, ↓q_M_isInwards, il_0, il_1, il_2, il_5, il_6]⟩
  · rw [if_neg (by decide), if_neg (by decide), if_neg (by decide)]
    by_cases e : k % 36 % 6 = 5
    · exact ⟨1, by omega, by omega, by simp (disch := first | decide | omega | (simp (disch := first | decide | omega) only [sv_s, sv_o, ur_s, ur_e, ur_o]; omega)) only [↓reduceIte, iv_add, iv_sub, iv_mul, iv_neg, iv_ltT, iv_ltF, iv_leT, iv_leF, iv_eqT, iv_eqF, iv_div, iv_mod, ↓bnI_s, ↓bnV_s, ↓bnJ_s, ↓bnR_s, rt_e, rt_0, rt_bz, sv_s, sv_o, ur_s, ur_e, ur_o, bz_T, bz_F, nat_eqF, ↓q_M_isInwards, il_0, il_1, il_2, il_5, il_6, e]⟩
    · exact ⟨0, by omega, by omega, by simp (disch := first | decide | omega | (simp (disch := first | decide | omega) only [sv_s, sv_o, ur_s, ur_e, ur_o]; omega)) only [↓reduceIte, iv_add, iv_sub, iv_mul, iv_neg, iv_ltT, iv_ltF, iv_leT, iv_leF, iv_eqT, iv_eqF, iv_div, iv_mod, ↓bnI_s, ↓bnV_s, ↓bnJ_s, ↓bnR_s, rt_e, rt_0, rt_bz, sv_s, sv_o, ur_s, ur_e, ur_o, bz_T, bz_F, nat_eqF, ↓q_M_isInwards, il_0, il_1, il_2, il_5, il_6]⟩
theorem y_M_comes_l (F : Fix z) {D : Int → Int} (h : HD D) {c w : Int} (hc : 0 ≤ c ∧ c < 36) (hw : 0 ≤ w ∧ w < 4) : ∀ (m : Nat) (k : Int) (V : Vm), (∀ k, 0 ≤ k → k < 36 → V 436 (71 + k) = D k) → 0 ≤ k → k + m = 144 → ∃ e V', core V' = core V ∧ Fhit D c w k e ∧ rX m_M_comes m_M_comes 12 [.ref 435, .int (iv c), .int (iv w), .int (iv k)] [] (em V J z) = some (.int (iv e), em V' J z) := by
  intro m
  induction m with
  | zero =>
    intro k V hD h0 hi
    refine ⟨-1, V, rfl, Or.inl ⟨rfl, fun b h1 h2 => absurd h2 (by omega)⟩, ?_⟩
    (rw [q_M_comes_12]; simp (disch := first | decide | omega | (simp (disch := first | decide | omega) only [sv_s, sv_o, ur_s, ur_e, ur_o]; omega)) only [↓reduceIte, iv_add, iv_sub, iv_mul, iv_neg, iv_ltT, iv_ltF, iv_leT, iv_leF, iv_eqT, iv_eqF, iv_div, iv_mod, ↓bnI_s, ↓bnV_s, ↓bnJ_s, ↓bnR_s, rt_e, rt_0, rt_bz, sv_s, sv_o, ur_s, ur_e, ur_o, bz_T, bz_F, nat_eqF, ↓gI_435_33 F, ↓gI_435_35 F, il_0, il_1, il_11, il_12, il_33, il_35, il_36, il_144])
  | succ m ih =>
    intro k V hD h0 hi
    have nx : ∀ V1, core V1 = core V → ¬ (inw k ∧ hit D c w k) → rX m_M_comes m_M_comes 12 [.ref 435, .int (iv c), .int (iv w), .int (iv k)] [] (em V J z) = rX m_M_comes m_M_comes 12 [.ref 435, .int (iv c), .int (iv w), .int (iv (k + 1))] [] (em V1 J z) → ∃ e V', core V' = core V ∧ Fhit D c w k e ∧ rX m_M_comes m_M_comes 12 [.ref 435, .int (iv c), .int (iv w), .int (iv k)] [] (em V J z) = some (.int (iv e), em V' J z) := by
      intro V1 c1 nh st
      obtain ⟨e, V', c2, g1, g2⟩ := ih (k + 1) V1 (fun k a b => by rw [core_cl c1 (by omega)]; exact hD k a b) (by omega) (by omega)
      refine ⟨e, V', c2.trans c1, ?_, st.trans g2⟩
      have al : ∀ b, k ≤ b → (b = k ∨ k + 1 ≤ b) := fun b hb => by omega
      rcases g1 with ⟨e1, q⟩ | ⟨e1, e2, e3, e4, q⟩
      · refine Or.inl ⟨e1, fun b h1 h2 h3 h4 => ?_⟩
        rcases al b h1 with r | r
        · rw [r] at h3 h4; exact nh ⟨h3, h4⟩
        · exact q b r h2 h3 h4
      · refine Or.inr ⟨by omega, e2, e3, e4, fun b h1 h2 h3 h4 => ?_⟩
        rcases al b h1 with r | r
        · rw [r] at h3 h4; exact nh ⟨h3, h4⟩
        · exact q b r h2 h3 h4
    obtain ⟨b, b01, bi, bf⟩ := y_isInwards (k := k) (h := em V J z) (by omega)
    rcases b01 with rfl | rfl
    · refine nx V rfl (fun q => ?_) ?_
      · have := bi.mpr q.1; omega
      · (rw [q_M_comes_12]; simp (disch := first | decide | omega | (simp (disch := first | decide | omega) only [sv_s, sv_o, ur_s, ur_e, ur_o]; omega)) only [↓reduceIte, iv_add, iv_sub, iv_mul, iv_neg, iv_ltT, iv_ltF, iv_leT, iv_leF, iv_eqT, iv_eqF, iv_div, iv_mod, ↓bnI_s, ↓bnV_s, ↓bnJ_s, ↓bnR_s, rt_e, rt_0, rt_bz, sv_s, sv_o, ur_s, ur_e, ur_o, bz_T, bz_F, nat_eqF, ↓gI_435_33 F, ↓gI_435_35 F, il_0, il_1, il_11, il_12, il_33, il_35, il_36, il_144, bf])
    · obtain ⟨V1, c1, f⟩ := y_flown (J := J) F h hD (c := k % 36) (w := k / 36) (by omega) (by omega)
      have bi := bi.mp rfl
      rcases f with ⟨N, n0, n1, n2, n3, n4, n5⟩ | ⟨n0, n5⟩
      · have r3 : 0 ≤ V1 435 35 ∧ V1 435 35 < 4 := by rw [n4]; exact (fe_rg h (by omega) (by omega) n0.2.1).2
        have r1 : -1 ≤ V1 435 33 ∧ V1 435 33 < 36 := by rw [n2]; exact (fe_rg h (by omega) (by omega) n0.2.1).1
        by_cases e1 : V1 435 33 = c
        · by_cases e2 : V1 435 35 = w
          · refine ⟨k, V1, c1, Or.inr ⟨by omega, by omega, bi, ⟨N, n0, by rw [← n2]; exact e1, by rw [← n4]; exact e2⟩, fun l l1 l2 => absurd l2 (by omega)⟩, ?_⟩
            (rw [q_M_comes_12]; simp (disch := first | decide | omega | (simp (disch := first | decide | omega) only [sv_s, sv_o, ur_s, ur_e, ur_o]; omega)) only [↓reduceIte, iv_add, iv_sub, iv_mul, iv_neg, iv_ltT, iv_ltF, iv_leT, iv_leF, iv_eqT, iv_eqF, iv_div, iv_mod, ↓bnI_s, ↓bnV_s, ↓bnJ_s, ↓bnR_s, rt_e, rt_0, rt_bz, sv_s, sv_o, ur_s, ur_e, ur_o, bz_T, bz_F, nat_eqF, ↓gI_435_33 F, ↓gI_435_35 F, il_0, il_1, il_11, il_12, il_33, il_35, il_36, il_144, bf, n5, e1, e2])
          · refine nx V1 c1 (fun ⟨_, M, m0, _, m2⟩ => ?_) ?_
            · rw [← fin_u n0 m0, ← n4] at m2
              exact e2 m2
            · (rw [q_M_comes_12]; simp (disch := first | decide | omega | (simp (disch := first | decide | omega) only [sv_s, sv_o, ur_s, ur_e, ur_o]; omega)) only [↓reduceIte, iv_add, iv_sub, iv_mul, iv_neg, iv_ltT, iv_ltF, iv_leT, iv_leF, iv_eqT, iv_eqF, iv_div, iv_mod, ↓bnI_s, ↓bnV_s, ↓bnJ_s, ↓bnR_s, rt_e, rt_0, rt_bz, sv_s, sv_o, ur_s, ur_e, ur_o, bz_T, bz_F, nat_eqF, ↓gI_435_33 F, ↓gI_435_35 F, il_0, il_1, il_11, il_12, il_33, il_35, il_36, il_144, bf, n5, e1])
        · refine nx V1 c1 (fun ⟨_, M, m0, m1, _⟩ => ?_) ?_
          · rw [← fin_u n0 m0, ← n2] at m1
            exact e1 m1
          · (rw [q_M_comes_12]; simp (disch := first | decide | omega | (simp (disch := first | decide | omega) only [sv_s, sv_o, ur_s, ur_e, ur_o]; omega)) only [↓reduceIte, iv_add, iv_sub, iv_mul, iv_neg, iv_ltT, iv_ltF, iv_leT, iv_leF, iv_eqT, iv_eqF, iv_div, iv_mod, ↓bnI_s, ↓bnV_s, ↓bnJ_s, ↓bnR_s, rt_e, rt_0, rt_bz, sv_s, sv_o, ur_s, ur_e, ur_o, bz_T, bz_F, nat_eqF, ↓gI_435_33 F, ↓gI_435_35 F, il_0, il_1, il_11, il_12, il_33, il_35, il_36, il_144, bf, n5])
      · refine nx V1 c1 (fun ⟨_, M, m0, _⟩ => m0.2.2 (n0 M)) ?_
        (rw [q_M_comes_12]; simp (disch := first | decide | omega | (simp (disch := first | decide | omega) only [sv_s, sv_o, ur_s, ur_e, ur_o]; omega)) only [↓reduceIte, iv_add, iv_sub, iv_mul, iv_neg, iv_ltT, iv_ltF, iv_leT, iv_leF, iv_eqT, iv_eqF, iv_div, iv_mod, ↓bnI_s, ↓bnV_s, ↓bnJ_s, ↓bnR_s, rt_e, rt_0, rt_bz, sv_s, sv_o, ur_s, ur_e, ur_o, bz_T, bz_F, nat_eqF, ↓gI_435_33 F, ↓gI_435_35 F, il_0, il_1, il_11, il_12, il_33, il_35, il_36, il_144, bf, n5])
theorem p_comes (F : Fix z) (hH : Hed V 9 (V 436)) {c w : Int} (hc : (-2147483648 ≤ c ∧ c < 2147483648)) (hw : (-2147483648 ≤ w ∧ w < 2147483648)) : Pq V J z (fun h => cA m_X_comes [.ref 8, .int (iv c), .int (iv w)] h) (fun h => cA m_M_comes [.ref 435, .int (iv c), .int (iv w)] h) := by
  by_cases h1 : 0 ≤ c ∧ c ≤ 35
  · by_cases h2 : 0 ≤ w ∧ w ≤ 3
    · obtain ⟨e, V1, c1, f1, f2⟩ := y_comes_o (J := J) F hH.HD (c := c) (w := w) (by omega) (by omega) 4 0 V rfl (by omega) (by omega)
      obtain ⟨e', V2, c2, g1, g2⟩ := y_M_comes_l (J := J) F hH.HD (c := c) (w := w) (by omega) (by omega) 144 0 V1 (hH.D c1) (by omega) (by omega)
      rw [← f1.first.u g1] at g2
      exact ⟨e, V1, J, V2, J, (by simp (disch := first | decide | omega | (simp (disch := first | decide | omega) only [sv_s, sv_o, ur_s, ur_e, ur_o]; omega)) only [↓reduceIte, iv_add, iv_sub, iv_mul, iv_neg, iv_ltT, iv_ltF, iv_leT, iv_leF, iv_eqT, iv_eqF, iv_div, iv_mod, ↓bnI_s, ↓bnV_s, ↓bnJ_s, ↓bnR_s, rt_e, rt_0, rt_bz, sv_s, sv_o, ur_s, ur_e, ur_o, bz_T, bz_F, nat_eqF, ↓q_X_comes, ↓gd_8 F, il_0, il_1, il_3, il_23, il_26, il_35, y_within, f2]), c1, (by simp (disch := first | decide | omega | (simp (disch := first | decide | omega) only [sv_s, sv_o, ur_s, ur_e, ur_o]; omega)) only [↓reduceIte, iv_add, iv_sub, iv_mul, iv_neg, iv_ltT, iv_ltF, iv_leT, iv_leF, iv_eqT, iv_eqF, iv_div, iv_mod, ↓bnI_s, ↓bnV_s, ↓bnJ_s, ↓bnR_s, rt_e, rt_0, rt_bz, sv_s, sv_o, ur_s, ur_e, ur_o, bz_T, bz_F, nat_eqF, ↓q_M_comes, ↓gd_435 F, il_0, il_1, il_12, il_27, y_isFlight, g2]), c2.trans c1⟩
    · exact ⟨-1, V, J, V, J, (by simp (disch := first | decide | omega | (simp (disch := first | decide | omega) only [sv_s, sv_o, ur_s, ur_e, ur_o]; omega)) only [↓reduceIte, iv_add, iv_sub, iv_mul, iv_neg, iv_ltT, iv_ltF, iv_leT, iv_leF, iv_eqT, iv_eqF, iv_div, iv_mod, ↓bnI_s, ↓bnV_s, ↓bnJ_s, ↓bnR_s, rt_e, rt_0, rt_bz, sv_s, sv_o, ur_s, ur_e, ur_o, bz_T, bz_F, nat_eqF, ↓q_X_comes, ↓gd_8 F, il_0, il_1, il_3, il_23, il_26, il_35, y_within]), rfl, (by simp (disch := first | decide | omega | (simp (disch := first | decide | omega) only [sv_s, sv_o, ur_s, ur_e, ur_o]; omega)) only [↓reduceIte, iv_add, iv_sub, iv_mul, iv_neg, iv_ltT, iv_ltF, iv_leT, iv_leF, iv_eqT, iv_eqF, iv_div, iv_mod, ↓bnI_s, ↓bnV_s, ↓bnJ_s, ↓bnR_s, rt_e, rt_0, rt_bz, sv_s, sv_o, ur_s, ur_e, ur_o, bz_T, bz_F, nat_eqF, ↓q_M_comes, ↓gd_435 F, il_0, il_1, il_12, il_27, y_isFlight]), rfl⟩
  · exact ⟨-1, V, J, V, J, (by simp (disch := first | decide | omega | (simp (disch := first | decide | omega) only [sv_s, sv_o, ur_s, ur_e, ur_o]; omega)) only [↓reduceIte, iv_add, iv_sub, iv_mul, iv_neg, iv_ltT, iv_ltF, iv_leT, iv_leF, iv_eqT, iv_eqF, iv_div, iv_mod, ↓bnI_s, ↓bnV_s, ↓bnJ_s, ↓bnR_s, rt_e, rt_0, rt_bz, sv_s, sv_o, ur_s, ur_e, ur_o, bz_T, bz_F, nat_eqF, ↓q_X_comes, ↓gd_8 F, il_0, il_1, il_3, il_23, il_26, il_35, y_within]), rfl, (by simp (disch := first | decide | omega | (simp (disch := first | decide | omega) only [sv_s, sv_o, ur_s, ur_e, ur_o]; omega)) only [↓reduceIte, iv_add, iv_sub, iv_mul, iv_neg, iv_ltT, iv_ltF, iv_leT, iv_leF, iv_eqT, iv_eqF, iv_div, iv_mod, ↓bnI_s, ↓bnV_s, ↓bnJ_s, ↓bnR_s, rt_e, rt_0, rt_bz, sv_s, sv_o, ur_s, ur_e, ur_o, bz_T, bz_F, nat_eqF, ↓q_M_comes, ↓gd_435 F, il_0, il_1, il_12, il_27, y_isFlight]), rfl⟩
end
