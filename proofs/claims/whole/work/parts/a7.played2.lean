/-! A TEXT, PLAYED: clause by clause -/
section
variable {V V0 J U K : Vm} {A : Int → Int} {z : Zz} {I0 : Nat → Nat → Int32} {q qt dc : Nat} {i t n : Int} {rv bv : (Int → Int) → Int → Int}
theorem y_play_l (F : Fix z) (L : Lc z V0 q i rv bv) (ht : 0 ≤ t ∧ t ≤ 3) (hn : 0 ≤ n ∧ n ≤ 24) (hd : 451 ≤ dc) (sd : z.2.1 dc = (1, (3 * n).toNat)) (h6 : V0 438 (681 * t) = n) (cl : ∀ k, 0 ≤ k → k < n → CLR (V0 dc (3 * k)) (V0 dc (3 * k + 1)) (V0 dc (3 * k + 2)) (V0 438 (681 * t + 1 + 3 * k)) (V0 438 (681 * t + 1 + 3 * k + 1)) (V0 438 (681 * t + 1 + 3 * k + 2))) : ∀ (m : Nat) (V J : Vm) (A : Int → Int) (j : Int), Mid V0 V A → 0 ≤ j → j + m = n → ∃ e A' V' J', rX m_X_played m_X_played 24 [.ref 8, dd, dd, .ref dc, .int (iv j)] [] (em V J z) = some (.int (iv e), em V' J' z) ∧ Mid V0 V' A' ∧ ∀ U K, U 436 = A → U 438 = V0 438 → U 435 23 = 1 → ∃ U' K', rX m_M_played m_M_played 21 [.ref 435, .int (iv t), .int (iv j)] [] (em U K z) = some (.int (iv e), em U' K' z) ∧ U' 436 = A' ∧ frM U U' := by
  have nn : (((3 * n).toNat : Nat) : Int) = 3 * n := by omega
  have al : ∀ (V J : Vm) (f : Int32 → Rs), alN (em V J z) dc f = f (iv (3 * n)) := fun V J f => by rw [alN_e sd rfl, nn]
  have ld : ∀ (V J : Vm) (j : Int) (f : Int32 → Rs), 0 ≤ j → j < 3 * n → ldI (em V J z) dc (iv j) f = f (iv (V dc j)) := fun V J j f j0 j1 => ldI_e sd (by omega) (by omega)
  intro m
  induction m with
  | zero =>
    intro V J A j md j0 hj
    have ej : j = n := by omega
    subst ej
    refine ⟨-1, A, V, J, ?_, md, fun U K hU h8 h23 => ⟨U, K, ?_, hU, frM.rfl_⟩⟩
    · by_cases c : j < 24
      · conv => lhs; rw [q_X_played_24]
        simp (disch := first | decide | omega | (simp (disch := first | decide | omega) only [sv_s, sv_o, ur_s, ur_e, ur_o]; omega)) only [↓reduceIte, iv_add, iv_sub, iv_mul, iv_neg, iv_ltT, iv_ltF, iv_leT, iv_leF, iv_eqT, iv_eqF, iv_div, iv_mod, ↓bnI_s, ↓bnV_s, ↓bnJ_s, ↓bnR_s, rt_e, rt_0, rt_bz, sv_s, sv_o, ur_s, ur_e, ur_o, bz_T, bz_F, nat_eqF, Nat.reduceAdd, ↓lI_18 F, ↓lI_19 F, ↓lI_20 F, ↓lI_22 F, ↓lI_23 F, ↓lI_25 F, ↓lI_26 F, ↓lI_28 F, ↓lI_29 F, ↓lI_418 F, ↓lI_420 F, ↓lI_421 F, ↓lI_422 F, ↓lI_423 F, ↓lI_425 F, ↓lI_426 F, ↓lI_428 F, ↓lI_429 F, ↓lI_432 F, ↓lI_433 F, ↓lI_434 F, ↓nI_18 F, ↓nI_19 F, ↓nI_20 F, ↓nI_22 F, ↓nI_23 F, ↓nI_25 F, ↓nI_26 F, ↓nI_28 F, ↓nI_29 F, ↓nI_418 F, ↓nI_420 F, ↓nI_421 F, ↓nI_422 F, ↓nI_423 F, ↓nI_425 F, ↓nI_426 F, ↓nI_428 F, ↓nI_429 F, ↓nI_432 F, ↓nI_433 F, ↓nI_434 F, il_0, il_1, il_2, il_3, il_24, ↓al]
      · conv => lhs; rw [q_X_played_24]
        simp (disch := first | decide | omega | (simp (disch := first | decide | omega) only [sv_s, sv_o, ur_s, ur_e, ur_o]; omega)) only [↓reduceIte, iv_add, iv_sub, iv_mul, iv_neg, iv_ltT, iv_ltF, iv_leT, iv_leF, iv_eqT, iv_eqF, iv_div, iv_mod, ↓bnI_s, ↓bnV_s, ↓bnJ_s, ↓bnR_s, rt_e, rt_0, rt_bz, sv_s, sv_o, ur_s, ur_e, ur_o, bz_T, bz_F, nat_eqF, Nat.reduceAdd, ↓lI_18 F, ↓lI_19 F, ↓lI_20 F, ↓lI_22 F, ↓lI_23 F, ↓lI_25 F, ↓lI_26 F, ↓lI_28 F, ↓lI_29 F, ↓lI_418 F, ↓lI_420 F, ↓lI_421 F, ↓lI_422 F, ↓lI_423 F, ↓lI_425 F, ↓lI_426 F, ↓lI_428 F, ↓lI_429 F, ↓lI_432 F, ↓lI_433 F, ↓lI_434 F, ↓nI_18 F, ↓nI_19 F, ↓nI_20 F, ↓nI_22 F, ↓nI_23 F, ↓nI_25 F, ↓nI_26 F, ↓nI_28 F, ↓nI_29 F, ↓nI_418 F, ↓nI_420 F, ↓nI_421 F, ↓nI_422 F, ↓nI_423 F, ↓nI_425 F, ↓nI_426 F, ↓nI_428 F, ↓nI_429 F, ↓nI_432 F, ↓nI_433 F, ↓nI_434 F, il_0, il_1, il_2, il_3, il_24]
    · have u6 : U 438 (681 * t) = j := by rw [h8]; exact h6
      (rw [q_M_played_21]; simp (disch := first | decide | omega | (simp (disch := first | decide | omega) only [sv_s, sv_o, ur_s, ur_e, ur_o]; omega)) only [↓reduceIte, iv_add, iv_sub, iv_mul, iv_neg, iv_ltT, iv_ltF, iv_leT, iv_leF, iv_eqT, iv_eqF, iv_div, iv_mod, ↓bnI_s, ↓bnV_s, ↓bnJ_s, ↓bnR_s, rt_e, rt_0, rt_bz, sv_s, sv_o, ur_s, ur_e, ur_o, bz_T, bz_F, nat_eqF, Nat.reduceAdd, ↓gR_435_2 F, ↓lI_436 F, ↓lI_437 F, ↓lI_438 F, ↓lI_439 F, ↓lI_440 F, ↓lI_441 F, ↓lI_443 F, ↓lI_444 F, ↓lI_445 F, ↓lI_446 F, ↓lI_447 F, ↓lI_448 F, ↓lI_449 F, ↓lI_450 F, il_0, il_1, il_2, il_3, il_11, il_21, il_681, u6])
  | succ m ih =>
    intro V J A j md j0 hj
    have c := cl j j0 (by omega)
    have vd : V dc = V0 dc := md.law dc (by omega)
    obtain ⟨u, hu⟩ : ∃ u, u = V0 dc (3 * j) := ⟨_, rfl⟩
    obtain ⟨a, ha⟩ : ∃ a, a = V0 dc (3 * j + 1) := ⟨_, rfl⟩
    obtain ⟨b, hb⟩ : ∃ b, b = V0 dc (3 * j + 2) := ⟨_, rfl⟩
    rw [← hu, ← ha, ← hb] at c
    obtain ⟨d, A1, V1, J1, e1, e2, e3, e4⟩ := y_done (J := J) (x := 681 * t + 1 + 3 * j) F L c (by omega) md
    have v1 : V dc (3 * j) = u := by rw [vd, hu]
    have v2 : V dc (3 * j + 1) = a := by rw [vd, ha]
    have v3 : V dc (3 * j + 2) = b := by rw [vd, hb]
    rcases e3 with rfl | rfl
    · refine ⟨j, A1, V1, J1, ?_, e2, fun U K hU h8 h23 => ?_⟩
      · conv => lhs; rw [q_X_played_24]
        simp (disch := first | decide | omega | (simp (disch := first | decide | omega) only [sv_s, sv_o, ur_s, ur_e, ur_o]; omega)) only [↓reduceIte, iv_add, iv_sub, iv_mul, iv_neg, iv_ltT, iv_ltF, iv_leT, iv_leF, iv_eqT, iv_eqF, iv_div, iv_mod, ↓bnI_s, ↓bnV_s, ↓bnJ_s, ↓bnR_s, rt_e, rt_0, rt_bz, sv_s, sv_o, ur_s, ur_e, ur_o, bz_T, bz_F, nat_eqF, Nat.reduceAdd, ↓lI_18 F, ↓lI_19 F, ↓lI_20 F, ↓lI_22 F, ↓lI_23 F, ↓lI_25 F, ↓lI_26 F, ↓lI_28 F, ↓lI_29 F, ↓lI_418 F, ↓lI_420 F, ↓lI_421 F, ↓lI_422 F, ↓lI_423 F, ↓lI_425 F, ↓lI_426 F, ↓lI_428 F, ↓lI_429 F, ↓lI_432 F, ↓lI_433 F, ↓lI_434 F, ↓nI_18 F, ↓nI_19 F, ↓nI_20 F, ↓nI_22 F, ↓nI_23 F, ↓nI_25 F, ↓nI_26 F, ↓nI_28 F, ↓nI_29 F, ↓nI_418 F, ↓nI_420 F, ↓nI_421 F, ↓nI_422 F, ↓nI_423 F, ↓nI_425 F, ↓nI_426 F, ↓nI_428 F, ↓nI_429 F, ↓nI_432 F, ↓nI_433 F, ↓nI_434 F, il_0, il_1, il_2, il_3, il_24, ↓al, ↓ld, v1, v2, v3, e1]
      · obtain ⟨U1, K1, f1, f2, f3⟩ := e4 U K hU h8 h23 rfl rfl rfl
        have u6 : U 438 (681 * t) = n := by rw [h8]; exact h6
        refine ⟨U1, K1, ?_, f2, f3⟩
        conv => lhs; rw [q_M_played_21]
        simp (disch := first | decide | omega | (simp (disch := first | decide | omega) only [sv_s, sv_o, ur_s, ur_e, ur_o]; omega)) only [↓reduceIte, iv_add, iv_sub, iv_mul, iv_neg, iv_ltT, iv_ltF, iv_leT, iv_leF, iv_eqT, iv_eqF, iv_div, iv_mod, ↓bnI_s, ↓bnV_s, ↓bnJ_s, ↓bnR_s, rt_e, rt_0, rt_bz, sv_s, sv_o, ur_s, ur_e, ur_o, bz_T, bz_F, nat_eqF, Nat.reduceAdd, ↓gR_435_2 F, ↓lI_436 F, ↓lI_437 F, ↓lI_438 F, ↓lI_439 F, ↓lI_440 F, ↓lI_441 F, ↓lI_443 F, ↓lI_444 F, ↓lI_445 F, ↓lI_446 F, ↓lI_447 F, ↓lI_448 F, ↓lI_449 F, ↓lI_450 F, il_0, il_1, il_2, il_3, il_11, il_21, il_681, u6, f1]
    · obtain ⟨e, A2, V2, J2, g1, g2, g3⟩ := ih V1 J1 A1 (j + 1) e2 (by omega) (by omega)
      refine ⟨e, A2, V2, J2, ?_, g2, fun U K hU h8 h23 => ?_⟩
      · rw [← g1]
        conv => lhs; rw [q_X_played_24]
        simp (disch := first | decide | omega | (simp (disch := first | decide | omega) only [sv_s, sv_o, ur_s, ur_e, ur_o]; omega)) only [↓reduceIte, iv_add, iv_sub, iv_mul, iv_neg, iv_ltT, iv_ltF, iv_leT, iv_leF, iv_eqT, iv_eqF, iv_div, iv_mod, ↓bnI_s, ↓bnV_s, ↓bnJ_s, ↓bnR_s, rt_e, rt_0, rt_bz, sv_s, sv_o, ur_s, ur_e, ur_o, bz_T, bz_F, nat_eqF, Nat.reduceAdd, ↓lI_18 F, ↓lI_19 F, ↓lI_20 F, ↓lI_22 F, ↓lI_23 F, ↓lI_25 F, ↓lI_26 F, ↓lI_28 F, ↓lI_29 F, ↓lI_418 F, ↓lI_420 F, ↓lI_421 F, ↓lI_422 F, ↓lI_423 F, ↓lI_425 F, ↓lI_426 F, ↓lI_428 F, ↓lI_429 F, ↓lI_432 F, ↓lI_433 F, ↓lI_434 F, ↓nI_18 F, ↓nI_19 F, ↓nI_20 F, ↓nI_22 F, ↓nI_23 F, ↓nI_25 F, ↓nI_26 F, ↓nI_28 F, ↓nI_29 F, ↓nI_418 F, ↓nI_420 F, ↓nI_421 F, ↓nI_422 F, ↓nI_423 F, ↓nI_425 F, ↓nI_426 F, ↓nI_428 F, ↓nI_429 F, ↓nI_432 F, ↓nI_433 F, ↓nI_434 F, il_0, il_1, il_2, il_3, il_24, ↓al, ↓ld, v1, v2, v3, e1]
      · obtain ⟨U1, K1, f1, f2, f3⟩ := e4 U K hU h8 h23 rfl rfl rfl
        have u81 : U1 438 = V0 438 := (funext fun k => f3 438 k (Or.inl (scr_F (by omega))) (by decide)).trans h8
        have u23 : U1 435 23 = 1 := (f3 435 23 (Or.inl (scr_F (by omega))) (by decide)).trans h23
        obtain ⟨U2, K2, k1, k2, k3⟩ := g3 U1 K1 f2 u81 u23
        have u6 : U 438 (681 * t) = n := by rw [h8]; exact h6
        refine ⟨U2, K2, ?_, k2, f3.tr k3⟩
        rw [← k1]
        conv => lhs; rw [q_M_played_21]
        simp (disch := first | decide | omega | (simp (disch := first | decide | omega) only [sv_s, sv_o, ur_s, ur_e, ur_o]; omega)) only [↓reduceIte, iv_add, iv_sub, iv_mul, iv_neg, iv_ltT, iv_ltF, iv_leT, iv_leF, iv_eqT, iv_eqF, iv_div, iv_mod, ↓bnI_s, ↓bnV_s, ↓bnJ_s, ↓bnR_s, rt_e, rt_0, rt_bz, sv_s, sv_o, ur_s, ur_e, ur_o, bz_T, bz_F, nat_eqF, Nat.reduceAdd, ↓gR_435_2 F, ↓lI_436 F, ↓lI_437 F, ↓lI_438 F, ↓lI_439 F, ↓lI_440 F, ↓lI_441 F, ↓lI_443 F, ↓lI_444 F, ↓lI_445 F, ↓lI_446 F, ↓lI_447 F, ↓lI_448 F, ↓lI_449 F, ↓lI_450 F, il_0, il_1, il_2, il_3, il_11, il_21, il_681, u6, f1]
theorem d_played (F : Fix z) (g : GI TXR I0 V0 z) (L : Lc z V0 q i rv bv) {t : Int} (ht : (-2147483648 ≤ t ∧ t < 2147483648)) : De z V0 (fun h => cA m_X_played [.ref 8, .int (iv t)] h) (fun h => cA m_M_played [.ref 435, .int (iv t)] h) := by
  obtain ⟨t1, t2, t3, t4, t5⟩ := g.1.2.2.2.2.2.2.2.2
  intro V J A md
  have v11 : V 9 11 = V0 436 1 := (md.at (by omega)).trans t1
  have a1 : A 1 = V0 436 1 := md.2.2.1 1 (by omega)
  by_cases h : 0 ≤ t ∧ t < V0 436 1
  · obtain ⟨dc, dk, n, e, ⟨⟨q0, _⟩, sq, r0, r1⟩, ⟨⟨c0, _⟩, sd⟩, _, hn, he, h6, h7, h9, h10⟩ := t5 t h.1 h.2
    have tx := y_textOf1 (V := V) (J := J) F (i := t) (by omega)
    obtain ⟨qt, hq⟩ : ∃ qt, qt = z.1 17 t.toNat := ⟨_, rfl⟩
    have hq' : qt = z.1 (9 + 8) t.toNat := hq
    rw [← hq] at tx
    rw [← hq'] at q0 sq r0 r1
    have n0 : (qt = 0) = False := eq_false (by omega)
    obtain ⟨e, A', V', J', e1, e2, e3⟩ := y_play_l F L (t := t) (by omega) hn c0 sd h6 h7 n.toNat V J A 0 md (by omega) (by omega)
    refine ⟨e, A', V', J', ?_, e2, fun U K hU h8 h23 => ?_⟩
    · show cA m_X_played [.ref 8, .int (iv t)] (em V J z) = _
      rw [← e1]
      simp (disch := first | decide | omega | (simp (disch := first | decide | omega) only [sv_s, sv_o, ur_s, ur_e, ur_o]; omega)) only [↓reduceIte, iv_add, iv_sub, iv_mul, iv_neg, iv_ltT, iv_ltF, iv_leT, iv_leF, iv_eqT, iv_eqF, iv_div, iv_mod, ↓bnI_s, ↓bnV_s, ↓bnJ_s, ↓bnR_s, rt_e, rt_0, rt_bz, sv_s, sv_o, ur_s, ur_e, ur_o, bz_T, bz_F, nat_eqF, Nat.reduceAdd, ↓q_X_played, ↓gR_8_0 F, ↓gd_8 F, il_0, il_1, il_2, il_9, il_10, il_24, il_26, tx, ↓tR0 sq, r0, n0]
    · obtain ⟨U', K', f1, f2, f3⟩ := e3 U K hU h8 h23
      refine ⟨U', K', ?_, f2, f3⟩
      have u1 : U 436 1 = V0 436 1 := by rw [hU, a1]
      have b1 : bz (0 ≤ t ∧ t ≤ V0 436 1 - 1) = 1 := bz_T (by omega)
      show cA m_M_played [.ref 435, .int (iv t)] (em U K z) = _
      rw [← f1]
      simp (disch := first | decide | omega | (simp (disch := first | decide | omega) only [sv_s, sv_o, ur_s, ur_e, ur_o]; omega)) only [↓reduceIte, iv_add, iv_sub, iv_mul, iv_neg, iv_ltT, iv_ltF, iv_leT, iv_leF, iv_eqT, iv_eqF, iv_div, iv_mod, ↓bnI_s, ↓bnV_s, ↓bnJ_s, ↓bnR_s, rt_e, rt_0, rt_bz, sv_s, sv_o, ur_s, ur_e, ur_o, bz_T, bz_F, nat_eqF, Nat.reduceAdd, ↓q_M_played, ↓gR_435_0 F, ↓lI_436 F, ↓lI_437 F, ↓lI_438 F, ↓lI_439 F, ↓lI_440 F, ↓lI_441 F, ↓lI_443 F, ↓lI_444 F, ↓lI_445 F, ↓lI_446 F, ↓lI_447 F, ↓lI_448 F, ↓lI_449 F, ↓lI_450 F, ↓gd_435 F, il_0, il_1, il_2, il_11, il_21, il_27, u1, y_isIn, b1]
  · have tx := y_textOf0 (V := V) (J := J) F (i := t) ht (by omega) (by omega)
    refine ⟨-2, A, V, J, ?_, md, fun U K hU h8 h23 => ⟨U, K, ?_, hU, frM.rfl_⟩⟩
    · show cA m_X_played [.ref 8, .int (iv t)] (em V J z) = _
      simp (disch := first | decide | omega | (simp (disch := first | decide | omega) only [sv_s, sv_o, ur_s, ur_e, ur_o]; omega)) only [↓reduceIte, iv_add, iv_sub, iv_mul, iv_neg, iv_ltT, iv_ltF, iv_leT, iv_leF, iv_eqT, iv_eqF, iv_div, iv_mod, ↓bnI_s, ↓bnV_s, ↓bnJ_s, ↓bnR_s, rt_e, rt_0, rt_bz, sv_s, sv_o, ur_s, ur_e, ur_o, bz_T, bz_F, nat_eqF, Nat.reduceAdd, ↓q_X_played, ↓gR_8_0 F, ↓gd_8 F, il_0, il_1, il_2, il_9, il_10, il_24, il_26, tx]
    · have u1 : U 436 1 = V0 436 1 := by rw [hU, a1]
      have b1 : bz (0 ≤ t ∧ t ≤ V0 436 1 - 1) = 0 := bz_F (by omega)
      show cA m_M_played [.ref 435, .int (iv t)] (em U K z) = _
      simp (disch := first | decide | omega | (simp (disch := first | decide | omega) only [sv_s, sv_o, ur_s, ur_e, ur_o]; omega)) only [↓reduceIte, iv_add, iv_sub, iv_mul, iv_neg, iv_ltT, iv_ltF, iv_leT, iv_leF, iv_eqT, iv_eqF, iv_div, iv_mod, ↓bnI_s, ↓bnV_s, ↓bnJ_s, ↓bnR_s, rt_e, rt_0, rt_bz, sv_s, sv_o, ur_s, ur_e, ur_o, bz_T, bz_F, nat_eqF, Nat.reduceAdd, ↓q_M_played, ↓gR_435_0 F, ↓lI_436 F, ↓lI_437 F, ↓lI_438 F, ↓lI_439 F, ↓lI_440 F, ↓lI_441 F, ↓lI_443 F, ↓lI_444 F, ↓lI_445 F, ↓lI_446 F, ↓lI_447 F, ↓lI_448 F, ↓lI_449 F, ↓lI_450 F, ↓gd_435 F, il_0, il_1, il_2, il_11, il_21, il_27, u1, y_isIn, b1]
end
