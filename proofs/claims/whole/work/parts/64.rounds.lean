/-! SEATINGS: the calls -/
section
variable {TX : Vm → Zz → Nat → Int → Prop} {I0 : Nat → Nat → Int32} {V J : Vm} {z : Zz}
/-- both have weighed all: what they hold -/
theorem y_both (F : Fix z) (g : GI TX I0 V z) : ∃ (n : Nat) (V1 V2 : Vm) (l mo' gd : Int) (b : Nat), V 436 0 = n ∧ n ≤ 6 ∧ (0 ≤ l ∧ l ≤ 594) ∧ (0 ≤ mo' ∧ mo' ≤ 594) ∧ (0 ≤ gd ∧ gd ≤ 120) ∧ core V1 = core V ∧ core V2 = core V ∧ cA m_Rounds_weighAll [.ref 427, .ref 9] (em V J z) = some (.null, em V1 J z) ∧ cA m_M_layBest [.ref 435] (em V1 J z) = some (.null, em V2 J z) ∧ (V1 427 2 = l ∧ V1 427 3 = mo' ∧ V1 427 4 = gd) ∧ (V2 435 28 = l ∧ V2 435 30 = mo' ∧ V2 435 29 = gd) ∧ (∀ k : Int, 0 ≤ k → k < n → V1 429 k = rw n b k ∧ V2 446 k = rw n b k) := by
  obtain ⟨n1, n2, n3, n4⟩ := g.1.1
  have n1 : V 10 5 = V 436 0 := n1
  obtain ⟨s1, s2⟩ := Spi.so g.1.2.2.1
  obtain ⟨n, hn⟩ := Int.eq_ofNat_of_zero_le n2.1
  have hn6 : n ≤ 6 := by omega
  have fl := fct_le hn6
  obtain ⟨V1, a1, a2, a3⟩ := y_weighAll (V := V) (J := J) F s1 hn6 (by omega)
  have c1 : core V1 = core V := core_ext fun a k hs => by
    by_cases q1 : a = 427
    · subst q1; rw [scr_T (by omega)] at hs; cases hs
    · by_cases q2 : a = 428
      · subst q2; rw [scr_T (by omega)] at hs; cases hs
      · by_cases q3 : a = 429
        · subst q3; rw [scr_T (by omega)] at hs; cases hs
        · rw [a1 a q1 q2 q3]
  have e436 : V1 436 = V 436 := a1 436 (by decide) (by decide) (by decide)
  obtain ⟨r1, r2, r3, r4⟩ := wst_rg s1 hn6 (fct (n - 1)) (Nat.le_refl _)
  obtain ⟨w1, w2, w3⟩ := a2
  obtain ⟨w1, w4⟩ := w1 (by omega)
  have row : ∀ k : Int, 0 ≤ k → k < n → V1 429 k = rw n (wst (V 18) n (fct (n - 1))).2.2.2 k := fun k k0 k1 => by
    obtain ⟨k, rfl⟩ := Int.eq_ofNat_of_zero_le k0
    have := w4 k (by omega)
    rw [this]
    rfl
  by_cases q : n = 0
  · subst q
    have e := y_layBest_0 (V := V1) (J := J) F (by rw [e436, hn]; rfl)
    have vz : wst (V 18) 0 (fct (0 - 1)) = (0, 0, 1, 0) := rfl
    rw [vz] at w1 w2 w3
    refine ⟨0, V1, _, 0, 0, 1, 0, hn, by omega, by omega, by omega, by omega, c1, ?_, a3, e, ⟨w1, w2, w3⟩, ⟨by simp (disch := first | decide | omega | (simp (disch := first | decide | omega) only [sv_s, sv_o, ur_s, ur_e, ur_o]; omega)) only [↓reduceIte, iv_add, iv_sub, iv_mul, iv_neg, iv_ltT, iv_ltF, iv_leT, iv_leF, iv_eqT, iv_eqF, iv_div, iv_mod, ↓bnI_s, ↓bnV_s, ↓bnJ_s, ↓bnR_s, rt_e, rt_0, rt_bz, sv_s, sv_o, ur_s, ur_e, ur_o, bz_T, bz_F, nat_eqF, Nat.reduceAdd], by simp (disch := first | decide | omega | (simp (disch := first | decide | omega) only [sv_s, sv_o, ur_s, ur_e, ur_o]; omega)) only [↓reduceIte, iv_add, iv_sub, iv_mul, iv_neg, iv_ltT, iv_ltF, iv_leT, iv_leF, iv_eqT, iv_eqF, iv_div, iv_mod, ↓bnI_s, ↓bnV_s, ↓bnJ_s, ↓bnR_s, rt_e, rt_0, rt_bz, sv_s, sv_o, ur_s, ur_e, ur_o, bz_T, bz_F, nat_eqF, Nat.reduceAdd], by simp (disch := first | decide | omega | (simp (disch := first | decide | omega) only [sv_s, sv_o, ur_s, ur_e, ur_o]; omega)) only [↓reduceIte, iv_add, iv_sub, iv_mul, iv_neg, iv_ltT, iv_ltF, iv_leT, iv_leF, iv_eqT, iv_eqF, iv_div, iv_mod, ↓bnI_s, ↓bnV_s, ↓bnJ_s, ↓bnR_s, rt_e, rt_0, rt_bz, sv_s, sv_o, ur_s, ur_e, ur_o, bz_T, bz_F, nat_eqF, Nat.reduceAdd]⟩, fun k k0 k1 => absurd k1 (by omega)⟩
    rw [core_w (by omega), core_w (by omega), core_w (by omega)]
    exact c1
  · obtain ⟨V2, b1, b2, b3⟩ := y_layBest (V := V1) (J := J) F s1 (n := n) (by omega) (by rw [e436]; exact hn) (fun k k0 k1 => by rw [e436]; exact s2 k k0 k1)
    obtain ⟨m1, m2, m3, m4⟩ := b2
    rw [if_neg (by omega)] at m1
    exact ⟨n, V1, V2, _, _, _, _, hn, hn6, r1, r2, ⟨r3.1, by omega⟩, c1, b1.trans c1, a3, b3, ⟨w1, w2, w3⟩, ⟨m1, m2, m3⟩, fun k k0 k1 => ⟨row k k0 k1, m4 (by omega) k k0 k1⟩⟩
theorem p_round (F : Fix z) (g : GI TX I0 V z) {b : Int} (hb : b = 0 ∨ b = 1) : Pq V J z (fun h => cA m_X_round [.ref 8, .int (iv b)] h) (fun h => cA m_M_round [.ref 435, .int (iv b)] h) := by
  obtain ⟨n, V1, V2, l, mo', gd, bb, k1, k2, k3, k4, k5, k6, k7, k8, k9, ⟨x1, x2, x3⟩, ⟨y1, y2, y3⟩, k10⟩ := y_both (J := J) F g
  rcases hb with rfl | rfl
  · exact ⟨mo', V1, J, V2, J, (by simp (disch := first | decide | omega | (simp (disch := first | decide | omega) only [sv_s, sv_o, ur_s, ur_e, ur_o]; omega)) only [↓reduceIte, iv_add, iv_sub, iv_mul, iv_neg, iv_ltT, iv_ltF, iv_leT, iv_leF, iv_eqT, iv_eqF, iv_div, iv_mod, ↓bnI_s, ↓bnV_s, ↓bnJ_s, ↓bnR_s, rt_e, rt_0, rt_bz, sv_s, sv_o, ur_s, ur_e, ur_o, bz_T, bz_F, nat_eqF, Nat.reduceAdd, ↓q_X_round, ↓gR_8_6 F, ↓gR_8_0 F, ↓gI_427_3 F, ↓gI_427_2 F, ↓gd_8 F, il_0, il_1, il_2, il_3, il_5, il_6, il_10, il_26, k8, x2]), k6, (by simp (disch := first | decide | omega | (simp (disch := first | decide | omega) only [sv_s, sv_o, ur_s, ur_e, ur_o]; omega)) only [↓reduceIte, iv_add, iv_sub, iv_mul, iv_neg, iv_ltT, iv_ltF, iv_leT, iv_leF, iv_eqT, iv_eqF, iv_div, iv_mod, ↓bnI_s, ↓bnV_s, ↓bnJ_s, ↓bnR_s, rt_e, rt_0, rt_bz, sv_s, sv_o, ur_s, ur_e, ur_o, bz_T, bz_F, nat_eqF, Nat.reduceAdd, ↓q_M_round, ↓gI_435_30 F, ↓gI_435_28 F, ↓gd_435 F, il_0, il_1, il_11, il_27, il_28, il_30, k9, y2]), k7⟩
  · exact ⟨l, V1, J, V2, J, (by simp (disch := first | decide | omega | (simp (disch := first | decide | omega) only [sv_s, sv_o, ur_s, ur_e, ur_o]; omega)) only [↓reduceIte, iv_add, iv_sub, iv_mul, iv_neg, iv_ltT, iv_ltF, iv_leT, iv_leF, iv_eqT, iv_eqF, iv_div, iv_mod, ↓bnI_s, ↓bnV_s, ↓bnJ_s, ↓bnR_s, rt_e, rt_0, rt_bz, sv_s, sv_o, ur_s, ur_e, ur_o, bz_T, bz_F, nat_eqF, Nat.reduceAdd, ↓q_X_round, ↓gR_8_6 F, ↓gR_8_0 F, ↓gI_427_3 F, ↓gI_427_2 F, ↓gd_8 F, il_0, il_1, il_2, il_3, il_5, il_6, il_10, il_26, k8, x1]), k6, (by simp (disch := first | decide | omega | (simp (disch := first | decide | omega) only [sv_s, sv_o, ur_s, ur_e, ur_o]; omega)) only [↓reduceIte, iv_add, iv_sub, iv_mul, iv_neg, iv_ltT, iv_ltF, iv_leT, iv_leF, iv_eqT, iv_eqF, iv_div, iv_mod, ↓bnI_s, ↓bnV_s, ↓bnJ_s, ↓bnR_s, rt_e, rt_0, rt_bz, sv_s, sv_o, ur_s, ur_e, ur_o, bz_T, bz_F, nat_eqF, Nat.reduceAdd, ↓q_M_round, ↓gI_435_30 F, ↓gI_435_28 F, ↓gd_435 F, il_0, il_1, il_11, il_27, il_28, il_30, k9, y1]), k7⟩
theorem p_seatings (F : Fix z) (g : GI TX I0 V z) : Pq V J z (fun h => cA m_X_seatings [.ref 8] h) (fun h => cA m_M_seatings [.ref 435] h) := by
  obtain ⟨n, V1, V2, l, mo', gd, bb, k1, k2, k3, k4, k5, k6, k7, k8, k9, ⟨x1, x2, x3⟩, ⟨y1, y2, y3⟩, k10⟩ := y_both (J := J) F g
  exact ⟨gd, V1, J, V2, J, (by simp (disch := first | decide | omega | (simp (disch := first | decide | omega) only [sv_s, sv_o, ur_s, ur_e, ur_o]; omega)) only [↓reduceIte, iv_add, iv_sub, iv_mul, iv_neg, iv_ltT, iv_ltF, iv_leT, iv_leF, iv_eqT, iv_eqF, iv_div, iv_mod, ↓bnI_s, ↓bnV_s, ↓bnJ_s, ↓bnR_s, rt_e, rt_0, rt_bz, sv_s, sv_o, ur_s, ur_e, ur_o, bz_T, bz_F, nat_eqF, Nat.reduceAdd, ↓q_X_seatings, ↓gR_8_6 F, ↓gR_8_0 F, ↓gI_427_4 F, ↓gd_8 F, il_0, il_1, il_4, il_5, il_6, il_10, il_26, k8, x3]), k6, (by simp (disch := first | decide | omega | (simp (disch := first | decide | omega) only [sv_s, sv_o, ur_s, ur_e, ur_o]; omega)) only [↓reduceIte, iv_add, iv_sub, iv_mul, iv_neg, iv_ltT, iv_ltF, iv_leT, iv_leF, iv_eqT, iv_eqF, iv_div, iv_mod, ↓bnI_s, ↓bnV_s, ↓bnJ_s, ↓bnR_s, rt_e, rt_0, rt_bz, sv_s, sv_o, ur_s, ur_e, ur_o, bz_T, bz_F, nat_eqF, Nat.reduceAdd, ↓q_M_seatings, ↓gI_435_29 F, ↓gd_435 F, il_0, il_1, il_11, il_27, il_29, k9, y3]), k7⟩
theorem p_seating (F : Fix z) (g : GI TX I0 V z) {s : Int} (hs : (-2147483648 ≤ s ∧ s < 2147483648)) : Pq V J z (fun h => cA m_X_seating [.ref 8, .int (iv s)] h) (fun h => cA m_M_seating [.ref 435, .int (iv s)] h) := by
  obtain ⟨n1, n2, n3, n4⟩ := g.1.1
  have n1 : V 10 5 = V 436 0 := n1
  by_cases h : 0 ≤ s ∧ s < V 436 0
  · obtain ⟨n, V1, V2, l, mo', gd, bb, k1, k2, k3, k4, k5, k6, k7, k8, k9, ⟨x1, x2, x3⟩, ⟨y1, y2, y3⟩, k10⟩ := y_both (J := J) F g
    obtain ⟨e1, e2⟩ := k10 s h.1 (by omega)
    have m : cA m_M_isKin [.ref 435, .int (iv s)] (em V1 J z) = some (.int (iv 1), em V1 J z) := by
      have e436 : V1 436 = V 436 := core_cl k6 (by omega)
      rw [y_isKin F hs (by rw [e436]; exact n2), e436, bz_T (by omega)]
    exact ⟨_, V1, J, V2, J, (by simp (disch := first | decide | omega | (simp (disch := first | decide | omega) only [sv_s, sv_o, ur_s, ur_e, ur_o]; omega)) only [↓reduceIte, iv_add, iv_sub, iv_mul, iv_neg, iv_ltT, iv_ltF, iv_leT, iv_leF, iv_eqT, iv_eqF, iv_div, iv_mod, ↓bnI_s, ↓bnV_s, ↓bnJ_s, ↓bnR_s, rt_e, rt_0, rt_bz, sv_s, sv_o, ur_s, ur_e, ur_o, bz_T, bz_F, nat_eqF, Nat.reduceAdd, ↓q_X_seating, ↓gR_8_0 F, ↓gR_9_0 F, ↓gR_8_6 F, ↓gR_427_1 F, ↓gd_8 F, il_0, il_1, il_2, il_5, il_6, il_10, il_26, y_has (T10 F), k8, y_get (s_429 F) (by decide), rd_in, e1]; rfl), k6, (by simp (disch := first | decide | omega | (simp (disch := first | decide | omega) only [sv_s, sv_o, ur_s, ur_e, ur_o]; omega)) only [↓reduceIte, iv_add, iv_sub, iv_mul, iv_neg, iv_ltT, iv_ltF, iv_leT, iv_leF, iv_eqT, iv_eqF, iv_div, iv_mod, ↓bnI_s, ↓bnV_s, ↓bnJ_s, ↓bnR_s, rt_e, rt_0, rt_bz, sv_s, sv_o, ur_s, ur_e, ur_o, bz_T, bz_F, nat_eqF, Nat.reduceAdd, ↓q_M_seating, ↓gR_435_27 F, ↓lI_436 F, ↓lI_437 F, ↓lI_438 F, ↓lI_439 F, ↓lI_440 F, ↓lI_441 F, ↓lI_443 F, ↓lI_444 F, ↓lI_445 F, ↓lI_446 F, ↓lI_447 F, ↓lI_448 F, ↓lI_449 F, ↓lI_450 F, ↓gd_435 F, il_0, il_1, il_11, il_27, m, k9, e2]), k7⟩
  · exact ⟨-1, V, J, V, J, (by simp (disch := first | decide | omega | (simp (disch := first | decide | omega) only [sv_s, sv_o, ur_s, ur_e, ur_o]; omega)) only [↓reduceIte, iv_add, iv_sub, iv_mul, iv_neg, iv_ltT, iv_ltF, iv_leT, iv_leF, iv_eqT, iv_eqF, iv_div, iv_mod, ↓bnI_s, ↓bnV_s, ↓bnJ_s, ↓bnR_s, rt_e, rt_0, rt_bz, sv_s, sv_o, ur_s, ur_e, ur_o, bz_T, bz_F, nat_eqF, Nat.reduceAdd, ↓q_X_seating, ↓gR_8_0 F, ↓gR_9_0 F, ↓gR_8_6 F, ↓gR_427_1 F, ↓gd_8 F, il_0, il_1, il_2, il_5, il_6, il_10, il_26, y_has (T10 F)]), rfl, (by simp (disch := first | decide | omega | (simp (disch := first | decide | omega) only [sv_s, sv_o, ur_s, ur_e, ur_o]; omega)) only [↓reduceIte, iv_add, iv_sub, iv_mul, iv_neg, iv_ltT, iv_ltF, iv_leT, iv_leF, iv_eqT, iv_eqF, iv_div, iv_mod, ↓bnI_s, ↓bnV_s, ↓bnJ_s, ↓bnR_s, rt_e, rt_0, rt_bz, sv_s, sv_o, ur_s, ur_e, ur_o, bz_T, bz_F, nat_eqF, Nat.reduceAdd, ↓q_M_seating, ↓gR_435_27 F, ↓lI_436 F, ↓lI_437 F, ↓lI_438 F, ↓lI_439 F, ↓lI_440 F, ↓lI_441 F, ↓lI_443 F, ↓lI_444 F, ↓lI_445 F, ↓lI_446 F, ↓lI_447 F, ↓lI_448 F, ↓lI_449 F, ↓lI_450 F, ↓gd_435 F, il_0, il_1, il_11, il_27, y_isKin F]), rfl⟩
end
