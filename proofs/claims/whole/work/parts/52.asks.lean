/-! what is so now: the calls that only look -/
section
variable {TX : Vm → Zz → Nat → Int → Prop} {I0 : Nat → Nat → Int32} {V J : Vm} {z : Zz}
theorem GI.ps (g : GI TX I0 V z) : PS (V 436) := Tr.ps g.1.1.2.1 g.1.1.2.2.2
theorem p_at (F : Fix z) (g : GI TX I0 V z) {s : Int} (hs : (-2147483648 ≤ s ∧ s < 2147483648)) : Pq V J z (fun h => cA m_X_at [.ref 8, .int (iv s)] h) (fun h => cA m_M_at [.ref 435, .int (iv s)] h) := by
  obtain ⟨n1, n2, n3, n4⟩ := g.1.1
  have n1 : V 10 5 = V 436 0 := n1
  by_cases h : 0 ≤ s ∧ s < V 436 0
  · have e : V 14 s = wat (V 436) s := n4.at n2 h
    exact ⟨wat (V 436) s, V, J, V, J, (by simp (disch := first | decide | omega | (simp (disch := first | decide | omega) only [sv_s, sv_o, ur_s, ur_e, ur_o]; omega)) only [↓reduceIte, iv_add, iv_sub, iv_mul, iv_neg, iv_ltT, iv_ltF, iv_leT, iv_leF, iv_eqT, iv_eqF, iv_div, iv_mod, ↓bnI_s, ↓bnV_s, ↓bnJ_s, ↓bnR_s, rt_e, rt_0, rt_bz, sv_s, sv_o, ur_s, ur_e, ur_o, bz_T, bz_F, nat_eqF, Nat.reduceAdd, ↓q_X_at, ↓gR_8_0 F, ↓gR_9_0 F, ↓gR_10_3 F, ↓gd_8 F, il_0, il_1, il_2, il_3, il_7, il_10, il_26, y_has (T10 F), y_get (s_14 F) (by decide), rd_in, e]), rfl, (by simp (disch := first | decide | omega | (simp (disch := first | decide | omega) only [sv_s, sv_o, ur_s, ur_e, ur_o]; omega)) only [↓reduceIte, iv_add, iv_sub, iv_mul, iv_neg, iv_ltT, iv_ltF, iv_leT, iv_leF, iv_eqT, iv_eqF, iv_div, iv_mod, ↓bnI_s, ↓bnV_s, ↓bnJ_s, ↓bnR_s, rt_e, rt_0, rt_bz, sv_s, sv_o, ur_s, ur_e, ur_o, bz_T, bz_F, nat_eqF, Nat.reduceAdd, ↓q_M_at, ↓gd_435 F, il_0, il_1, il_27, y_isKin F, y_whoAt F g.ps h]), rfl⟩
  · exact ⟨-1, V, J, V, J, (by simp (disch := first | decide | omega | (simp (disch := first | decide | omega) only [sv_s, sv_o, ur_s, ur_e, ur_o]; omega)) only [↓reduceIte, iv_add, iv_sub, iv_mul, iv_neg, iv_ltT, iv_ltF, iv_leT, iv_leF, iv_eqT, iv_eqF, iv_div, iv_mod, ↓bnI_s, ↓bnV_s, ↓bnJ_s, ↓bnR_s, rt_e, rt_0, rt_bz, sv_s, sv_o, ur_s, ur_e, ur_o, bz_T, bz_F, nat_eqF, Nat.reduceAdd, ↓q_X_at, ↓gR_8_0 F, ↓gR_9_0 F, ↓gR_10_3 F, ↓gd_8 F, il_0, il_1, il_2, il_3, il_7, il_10, il_26, y_has (T10 F)]), rfl, (by simp (disch := first | decide | omega | (simp (disch := first | decide | omega) only [sv_s, sv_o, ur_s, ur_e, ur_o]; omega)) only [↓reduceIte, iv_add, iv_sub, iv_mul, iv_neg, iv_ltT, iv_ltF, iv_leT, iv_leF, iv_eqT, iv_eqF, iv_div, iv_mod, ↓bnI_s, ↓bnV_s, ↓bnJ_s, ↓bnR_s, rt_e, rt_0, rt_bz, sv_s, sv_o, ur_s, ur_e, ur_o, bz_T, bz_F, nat_eqF, Nat.reduceAdd, ↓q_M_at, ↓gd_435 F, il_0, il_1, il_27, y_isKin F]), rfl⟩
/-- KEPT of the first so many, together -/
def ksum (A : Int → Int) : Nat → Int
  | 0 => 0
  | k + 1 => ksum A k + A (11 + k)
theorem ksum_rg {A : Int → Int} : ∀ m : Nat, (∀ k : Int, 0 ≤ k → k < m → 0 ≤ A (11 + k) ∧ A (11 + k) ≤ 99) → 0 ≤ ksum A m ∧ ksum A m ≤ 99 * m := by
  intro m
  induction m with
  | zero => intro _; exact ⟨Int.le_refl _, Int.le_refl _⟩
  | succ m ih =>
    intro h
    have a := ih (fun k k0 k1 => h k k0 (by omega))
    have b := h m (by omega) (by omega)
    show 0 ≤ ksum A m + A (11 + m) ∧ ksum A m + A (11 + m) ≤ 99 * ((m + 1 : Nat) : Int)
    omega
theorem y_keptAll_l (F : Fix z) {A : Int → Int} (hn : V 10 5 = A 0) (n : 0 ≤ A 0 ∧ A 0 ≤ 6) (R : Tr V 10 (A 0) A) : ∀ (m k : Nat), k + m = A 0 → rX m_Table_keptOfAll m_Table_keptOfAll 4 [.ref 10, .int (iv (ksum A k)), .int (iv k)] [] (em V J z) = some (.int (iv (ksum A (A 0).toNat)), em V J z) := by
  have T := T10 F
  intro m
  induction m with
  | zero =>
    intro k hk
    rw [show (A 0).toNat = k by omega]
    (rw [q_Table_keptOfAll_4]; simp (disch := first | decide | omega | (simp (disch := first | decide | omega) only [sv_s, sv_o, ur_s, ur_e, ur_o]; omega)) only [↓reduceIte, iv_add, iv_sub, iv_mul, iv_neg, iv_ltT, iv_ltF, iv_leT, iv_leF, iv_eqT, iv_eqF, iv_div, iv_mod, ↓bnI_s, ↓bnV_s, ↓bnJ_s, ↓bnR_s, rt_e, rt_0, rt_bz, sv_s, sv_o, ur_s, ur_e, ur_o, bz_T, bz_F, nat_eqF, Nat.reduceAdd, ↓gT_5 T, ↓rT_1 T, il_0, il_1, il_4, il_5, il_7, hn])
  | succ m ih =>
    intro k hk
    have r : V 12 k = A (11 + k) := (R.1 k (by omega) (by omega)).1
    rw [← ih (k + 1) (by omega)]
    (rw [q_Table_keptOfAll_4]; simp (disch := first | decide | omega | (simp (disch := first | decide | omega) only [sv_s, sv_o, ur_s, ur_e, ur_o]; omega)) only [↓reduceIte, iv_add, iv_sub, iv_mul, iv_neg, iv_ltT, iv_ltF, iv_leT, iv_leF, iv_eqT, iv_eqF, iv_div, iv_mod, ↓bnI_s, ↓bnV_s, ↓bnJ_s, ↓bnR_s, rt_e, rt_0, rt_bz, sv_s, sv_o, ur_s, ur_e, ur_o, bz_T, bz_F, nat_eqF, Nat.reduceAdd, ↓gT_5 T, ↓rT_1 T, il_0, il_1, il_4, il_5, il_7, hn, y_get (s_12 F) (by decide), rd_in, r, Int.natCast_add, Int.natCast_one])
    rfl
theorem y_M_is_l (F : Fix z) (n : 0 ≤ V 436 0 ∧ V 436 0 ≤ 6) {w : Int} (hw : (-2147483648 ≤ w ∧ w < 2147483648)) : ∀ (m k : Nat), k + m = V 436 0 → rX m_M_is m_M_is 23 [.ref 435, .int (iv w), .int (iv (ksum (V 436) k)), .int (iv k)] [] (em V J z) = rX m_M_is m_M_is 23 [.ref 435, .int (iv w), .int (iv (ksum (V 436) (V 436 0).toNat)), .int (iv (V 436 0))] [] (em V J z) := by
  intro m
  induction m with
  | zero =>
    intro k hk
    rw [show (V 436 0).toNat = k by omega, show V 436 0 = k by omega]
  | succ m ih =>
    intro k hk
    rw [← ih (k + 1) (by omega)]
    (rw [q_M_is_23]; simp (disch := first | decide | omega | (simp (disch := first | decide | omega) only [sv_s, sv_o, ur_s, ur_e, ur_o]; omega)) only [↓reduceIte, iv_add, iv_sub, iv_mul, iv_neg, iv_ltT, iv_ltF, iv_leT, iv_leF, iv_eqT, iv_eqF, iv_div, iv_mod, ↓bnI_s, ↓bnV_s, ↓bnJ_s, ↓bnR_s, rt_e, rt_0, rt_bz, sv_s, sv_o, ur_s, ur_e, ur_o, bz_T, bz_F, nat_eqF, Nat.reduceAdd, ↓gR_435_0 F, ↓lI_436 F, ↓lI_437 F, ↓lI_438 F, ↓lI_439 F, ↓lI_440 F, ↓lI_441 F, ↓lI_443 F, ↓lI_444 F, ↓lI_445 F, ↓lI_446 F, ↓lI_447 F, ↓lI_448 F, ↓lI_449 F, ↓lI_450 F, il_0, il_1, il_2, il_3, il_10, il_11, il_23, Int.natCast_add, Int.natCast_one])
    rfl
theorem p_is (F : Fix z) (g : GI TX I0 V z) {w : Int} (hw : (-2147483648 ≤ w ∧ w < 2147483648)) : Pq V J z (fun h => cA m_X_is [.ref 8, .int (iv w)] h) (fun h => cA m_M_is [.ref 435, .int (iv w)] h) := by
  obtain ⟨n1, n2, n3, n4⟩ := g.1.1
  have n1 : V 10 5 = V 436 0 := n1
  obtain ⟨r1, r2, r3, r4, r5, r6, r7⟩ := id n4
  by_cases h0 : w = 0
  · subst h0
    exact ⟨V 436 7, V, J, V, J, (by simp (disch := first | decide | omega | (simp (disch := first | decide | omega) only [sv_s, sv_o, ur_s, ur_e, ur_o]; omega)) only [↓reduceIte, iv_add, iv_sub, iv_mul, iv_neg, iv_ltT, iv_ltF, iv_leT, iv_leF, iv_eqT, iv_eqF, iv_div, iv_mod, ↓bnI_s, ↓bnV_s, ↓bnJ_s, ↓bnR_s, rt_e, rt_0, rt_bz, sv_s, sv_o, ur_s, ur_e, ur_o, bz_T, bz_F, nat_eqF, Nat.reduceAdd, ↓q_X_is, ↓gR_8_0 F, ↓gR_9_0 F, ↓gI_10_7 F, ↓gI_10_8 F, ↓gI_10_6 F, ↓gd_8 F, il_0, il_1, il_2, il_3, il_6, il_7, il_8, il_10, il_26, r4.1]), rfl, (by simp (disch := first | decide | omega | (simp (disch := first | decide | omega) only [sv_s, sv_o, ur_s, ur_e, ur_o]; omega)) only [↓reduceIte, iv_add, iv_sub, iv_mul, iv_neg, iv_ltT, iv_ltF, iv_leT, iv_leF, iv_eqT, iv_eqF, iv_div, iv_mod, ↓bnI_s, ↓bnV_s, ↓bnJ_s, ↓bnR_s, rt_e, rt_0, rt_bz, sv_s, sv_o, ur_s, ur_e, ur_o, bz_T, bz_F, nat_eqF, Nat.reduceAdd, ↓q_M_is, ↓gR_435_0 F, ↓lI_436 F, ↓lI_437 F, ↓lI_438 F, ↓lI_439 F, ↓lI_440 F, ↓lI_441 F, ↓lI_443 F, ↓lI_444 F, ↓lI_445 F, ↓lI_446 F, ↓lI_447 F, ↓lI_448 F, ↓lI_449 F, ↓lI_450 F, ↓gd_435 F, il_0, il_1, il_7, il_11, il_23, il_27, y_isIn, Int.reduceAdd]), rfl⟩
  · by_cases h1 : w = 1
    · subst h1
      exact ⟨V 436 8, V, J, V, J, (by simp (disch := first | decide | omega | (simp (disch := first | decide | omega) only [sv_s, sv_o, ur_s, ur_e, ur_o]; omega)) only [↓reduceIte, iv_add, iv_sub, iv_mul, iv_neg, iv_ltT, iv_ltF, iv_leT, iv_leF, iv_eqT, iv_eqF, iv_div, iv_mod, ↓bnI_s, ↓bnV_s, ↓bnJ_s, ↓bnR_s, rt_e, rt_0, rt_bz, sv_s, sv_o, ur_s, ur_e, ur_o, bz_T, bz_F, nat_eqF, Nat.reduceAdd, ↓q_X_is, ↓gR_8_0 F, ↓gR_9_0 F, ↓gI_10_7 F, ↓gI_10_8 F, ↓gI_10_6 F, ↓gd_8 F, il_0, il_1, il_2, il_3, il_6, il_7, il_8, il_10, il_26, r5.1]), rfl, (by simp (disch := first | decide | omega | (simp (disch := first | decide | omega) only [sv_s, sv_o, ur_s, ur_e, ur_o]; omega)) only [↓reduceIte, iv_add, iv_sub, iv_mul, iv_neg, iv_ltT, iv_ltF, iv_leT, iv_leF, iv_eqT, iv_eqF, iv_div, iv_mod, ↓bnI_s, ↓bnV_s, ↓bnJ_s, ↓bnR_s, rt_e, rt_0, rt_bz, sv_s, sv_o, ur_s, ur_e, ur_o, bz_T, bz_F, nat_eqF, Nat.reduceAdd, ↓q_M_is, ↓gR_435_0 F, ↓lI_436 F, ↓lI_437 F, ↓lI_438 F, ↓lI_439 F, ↓lI_440 F, ↓lI_441 F, ↓lI_443 F, ↓lI_444 F, ↓lI_445 F, ↓lI_446 F, ↓lI_447 F, ↓lI_448 F, ↓lI_449 F, ↓lI_450 F, ↓gd_435 F, il_0, il_1, il_7, il_11, il_23, il_27, y_isIn, Int.reduceAdd]), rfl⟩
    · have st : cA m_M_is [.ref 435, .int (iv w)] (em V J z) = rX m_M_is m_M_is 23 [.ref 435, .int (iv w), .int (iv (ksum (V 436) (V 436 0).toNat)), .int (iv (V 436 0))] [] (em V J z) := by
        rw [← y_M_is_l F n2 hw (V 436 0).toNat 0 (by omega)]
        simp (disch := first | decide | omega | (simp (disch := first | decide | omega) only [sv_s, sv_o, ur_s, ur_e, ur_o]; omega)) only [↓reduceIte, iv_add, iv_sub, iv_mul, iv_neg, iv_ltT, iv_ltF, iv_leT, iv_leF, iv_eqT, iv_eqF, iv_div, iv_mod, ↓bnI_s, ↓bnV_s, ↓bnJ_s, ↓bnR_s, rt_e, rt_0, rt_bz, sv_s, sv_o, ur_s, ur_e, ur_o, bz_T, bz_F, nat_eqF, Nat.reduceAdd, ↓q_M_is, ↓gR_435_0 F, ↓lI_436 F, ↓lI_437 F, ↓lI_438 F, ↓lI_439 F, ↓lI_440 F, ↓lI_441 F, ↓lI_443 F, ↓lI_444 F, ↓lI_445 F, ↓lI_446 F, ↓lI_447 F, ↓lI_448 F, ↓lI_449 F, ↓lI_450 F, ↓gd_435 F, il_0, il_1, il_7, il_11, il_23, il_27, y_isIn]
        rfl
      have kr := ksum_rg (A := V 436) (V 436 0).toNat (fun k k0 k1 => (r1 k k0 (by omega)).2.2.2.1)
      by_cases h2 : w = 2
      · subst h2
        have q : cA m_Table_keptOfAll [.ref 10] (em V J z) = some (.int (iv (ksum (V 436) (V 436 0).toNat)), em V J z) := by
          rw [← y_keptAll_l F n1 n2 n4 (V 436 0).toNat 0 (by omega), q_Table_keptOfAll, gd_10 F, il_0]
          rfl
        refine ⟨ksum (V 436) (V 436 0).toNat, V, J, V, J, (by simp (disch := first | decide | omega | (simp (disch := first | decide | omega) only [sv_s, sv_o, ur_s, ur_e, ur_o]; omega)) only [↓reduceIte, iv_add, iv_sub, iv_mul, iv_neg, iv_ltT, iv_ltF, iv_leT, iv_leF, iv_eqT, iv_eqF, iv_div, iv_mod, ↓bnI_s, ↓bnV_s, ↓bnJ_s, ↓bnR_s, rt_e, rt_0, rt_bz, sv_s, sv_o, ur_s, ur_e, ur_o, bz_T, bz_F, nat_eqF, Nat.reduceAdd, ↓q_X_is, ↓gR_8_0 F, ↓gR_9_0 F, ↓gI_10_7 F, ↓gI_10_8 F, ↓gI_10_6 F, ↓gd_8 F, il_0, il_1, il_2, il_3, il_6, il_7, il_8, il_10, il_26, q]), rfl, ?_, rfl⟩
        show cA _ _ _ = _
        rw [st]
        (rw [q_M_is_23]; simp (disch := first | decide | omega | (simp (disch := first | decide | omega) only [sv_s, sv_o, ur_s, ur_e, ur_o]; omega)) only [↓reduceIte, iv_add, iv_sub, iv_mul, iv_neg, iv_ltT, iv_ltF, iv_leT, iv_leF, iv_eqT, iv_eqF, iv_div, iv_mod, ↓bnI_s, ↓bnV_s, ↓bnJ_s, ↓bnR_s, rt_e, rt_0, rt_bz, sv_s, sv_o, ur_s, ur_e, ur_o, bz_T, bz_F, nat_eqF, Nat.reduceAdd, ↓gR_435_0 F, ↓lI_436 F, ↓lI_437 F, ↓lI_438 F, ↓lI_439 F, ↓lI_440 F, ↓lI_441 F, ↓lI_443 F, ↓lI_444 F, ↓lI_445 F, ↓lI_446 F, ↓lI_447 F, ↓lI_448 F, ↓lI_449 F, ↓lI_450 F, il_0, il_1, il_2, il_3, il_10, il_11, il_23])
      · by_cases h3 : w = 3
        · subst h3
          refine ⟨V 436 10, V, J, V, J, (by simp (disch := first | decide | omega | (simp (disch := first | decide | omega) only [sv_s, sv_o, ur_s, ur_e, ur_o]; omega)) only [↓reduceIte, iv_add, iv_sub, iv_mul, iv_neg, iv_ltT, iv_ltF, iv_leT, iv_leF, iv_eqT, iv_eqF, iv_div, iv_mod, ↓bnI_s, ↓bnV_s, ↓bnJ_s, ↓bnR_s, rt_e, rt_0, rt_bz, sv_s, sv_o, ur_s, ur_e, ur_o, bz_T, bz_F, nat_eqF, Nat.reduceAdd, ↓q_X_is, ↓gR_8_0 F, ↓gR_9_0 F, ↓gI_10_7 F, ↓gI_10_8 F, ↓gI_10_6 F, ↓gd_8 F, il_0, il_1, il_2, il_3, il_6, il_7, il_8, il_10, il_26, r3.1]), rfl, ?_, rfl⟩
          show cA _ _ _ = _
          rw [st]
          (rw [q_M_is_23]; simp (disch := first | decide | omega | (simp (disch := first | decide | omega) only [sv_s, sv_o, ur_s, ur_e, ur_o]; omega)) only [↓reduceIte, iv_add, iv_sub, iv_mul, iv_neg, iv_ltT, iv_ltF, iv_leT, iv_leF, iv_eqT, iv_eqF, iv_div, iv_mod, ↓bnI_s, ↓bnV_s, ↓bnJ_s, ↓bnR_s, rt_e, rt_0, rt_bz, sv_s, sv_o, ur_s, ur_e, ur_o, bz_T, bz_F, nat_eqF, Nat.reduceAdd, ↓gR_435_0 F, ↓lI_436 F, ↓lI_437 F, ↓lI_438 F, ↓lI_439 F, ↓lI_440 F, ↓lI_441 F, ↓lI_443 F, ↓lI_444 F, ↓lI_445 F, ↓lI_446 F, ↓lI_447 F, ↓lI_448 F, ↓lI_449 F, ↓lI_450 F, il_0, il_1, il_2, il_3, il_10, il_11, il_23])
        · refine ⟨-2, V, J, V, J, (by simp (disch := first | decide | omega | (simp (disch := first | decide | omega) only [sv_s, sv_o, ur_s, ur_e, ur_o]; omega)) only [↓reduceIte, iv_add, iv_sub, iv_mul, iv_neg, iv_ltT, iv_ltF, iv_leT, iv_leF, iv_eqT, iv_eqF, iv_div, iv_mod, ↓bnI_s, ↓bnV_s, ↓bnJ_s, ↓bnR_s, rt_e, rt_0, rt_bz, sv_s, sv_o, ur_s, ur_e, ur_o, bz_T, bz_F, nat_eqF, Nat.reduceAdd, ↓q_X_is, ↓gR_8_0 F, ↓gR_9_0 F, ↓gI_10_7 F, ↓gI_10_8 F, ↓gI_10_6 F, ↓gd_8 F, il_0, il_1, il_2, il_3, il_6, il_7, il_8, il_10, il_26]), rfl, ?_, rfl⟩
          show cA _ _ _ = _
          rw [st]
          (rw [q_M_is_23]; simp (disch := first | decide | omega | (simp (disch := first | decide | omega) only [sv_s, sv_o, ur_s, ur_e, ur_o]; omega)) only [↓reduceIte, iv_add, iv_sub, iv_mul, iv_neg, iv_ltT, iv_ltF, iv_leT, iv_leF, iv_eqT, iv_eqF, iv_div, iv_mod, ↓bnI_s, ↓bnV_s, ↓bnJ_s, ↓bnR_s, rt_e, rt_0, rt_bz, sv_s, sv_o, ur_s, ur_e, ur_o, bz_T, bz_F, nat_eqF, Nat.reduceAdd, ↓gR_435_0 F, ↓lI_436 F, ↓lI_437 F, ↓lI_438 F, ↓lI_439 F, ↓lI_440 F, ↓lI_441 F, ↓lI_443 F, ↓lI_444 F, ↓lI_445 F, ↓lI_446 F, ↓lI_447 F, ↓lI_448 F, ↓lI_449 F, ↓lI_450 F, il_0, il_1, il_2, il_3, il_10, il_11, il_23])
/-! THE BOOK -/
theorem Bk.rg {u v : Int} (h : Bk u v) : (0 ≤ u ∧ u < 2147483648) ∧ (0 ≤ v ∧ v < 2147483648) := by
  obtain ⟨d, w, th, st, h1, h2, h3, h4, rfl, rfl⟩ := h
  omega
theorem Bk.at {u v : Int} (h : Bk u v) : u / 4096 = v / 2688 ∧ u / 512 % 8 = v / 448 % 6 ∧ u / 8 % 64 = v / 7 % 64 ∧ u % 8 - 1 = v % 7 - 1 := by
  obtain ⟨d, w, th, st, h1, h2, h3, h4, rfl, rfl⟩ := h
  refine ⟨?_, ?_, ?_, ?_⟩ <;> omega
theorem p_book (F : Fix z) (g : GI TX I0 V z) {i w : Int} (hi : (-2147483648 ≤ i ∧ i < 2147483648)) (hw : (-2147483648 ≤ w ∧ w < 2147483648)) : Pq V J z (fun h => cA m_X_book [.ref 8, .int (iv i), .int (iv w)] h) (fun h => cA m_M_book [.ref 435, .int (iv i), .int (iv w)] h) := by
  obtain ⟨n1, n2, n3, r1, r2, r3, r4, r5, r6, r7⟩ := g.1.1
  have r6 : V 10 9 = V 436 9 ∧ 0 ≤ V 436 9 ∧ V 436 9 ≤ 25 := r6
  by_cases h0 : i = -1
  · subst h0
    exact ⟨V 436 9, V, J, V, J, (by simp (disch := first | decide | omega | (simp (disch := first | decide | omega) only [sv_s, sv_o, ur_s, ur_e, ur_o]; omega)) only [↓reduceIte, iv_add, iv_sub, iv_mul, iv_neg, iv_ltT, iv_ltF, iv_leT, iv_leF, iv_eqT, iv_eqF, iv_div, iv_mod, ↓bnI_s, ↓bnV_s, ↓bnJ_s, ↓bnR_s, rt_e, rt_0, rt_bz, sv_s, sv_o, ur_s, ur_e, ur_o, bz_T, bz_F, nat_eqF, Nat.reduceAdd, ↓q_X_book, ↓gR_8_0 F, ↓gR_9_0 F, ↓gI_10_9 F, ↓gR_10_4 F, ↓gd_8 F, il_0, il_1, il_2, il_3, il_4, il_7, il_9, il_10, il_26, r6.1]), rfl, (by simp (disch := first | decide | omega | (simp (disch := first | decide | omega) only [sv_s, sv_o, ur_s, ur_e, ur_o]; omega)) only [↓reduceIte, iv_add, iv_sub, iv_mul, iv_neg, iv_ltT, iv_ltF, iv_leT, iv_leF, iv_eqT, iv_eqF, iv_div, iv_mod, ↓bnI_s, ↓bnV_s, ↓bnJ_s, ↓bnR_s, rt_e, rt_0, rt_bz, sv_s, sv_o, ur_s, ur_e, ur_o, bz_T, bz_F, nat_eqF, Nat.reduceAdd, ↓q_M_book, ↓gR_435_0 F, ↓lI_436 F, ↓lI_437 F, ↓lI_438 F, ↓lI_439 F, ↓lI_440 F, ↓lI_441 F, ↓lI_443 F, ↓lI_444 F, ↓lI_445 F, ↓lI_446 F, ↓lI_447 F, ↓lI_448 F, ↓lI_449 F, ↓lI_450 F, ↓gd_435 F, il_0, il_1, il_2, il_3, il_9, il_11, il_27]), rfl⟩
  · by_cases h1 : 0 ≤ i ∧ i ≤ V 436 9 - 1
    · have b : Bk (V 15 i) (V 436 (1425 + i)) := r7 i h1.1 (by omega)
      have br := b.rg
      have ba := b.at
      by_cases h2 : 0 ≤ w ∧ w ≤ 3
      · rcases w4 (w := w) (by omega) with rfl | rfl | rfl | rfl
        · exact ⟨V 15 i / 4096, V, J, V, J, (by simp (disch := first | decide | omega | (simp (disch := first | decide | omega) only [sv_s, sv_o, ur_s, ur_e, ur_o]; omega)) only [↓reduceIte, iv_add, iv_sub, iv_mul, iv_neg, iv_ltT, iv_ltF, iv_leT, iv_leF, iv_eqT, iv_eqF, iv_div, iv_mod, ↓bnI_s, ↓bnV_s, ↓bnJ_s, ↓bnR_s, rt_e, rt_0, rt_bz, sv_s, sv_o, ur_s, ur_e, ur_o, bz_T, bz_F, nat_eqF, Nat.reduceAdd, ↓q_X_book, ↓q_Table_dinnerOf, ↓gR_8_0 F, ↓gR_9_0 F, ↓gI_10_9 F, ↓gR_10_4 F, ↓gd_8 F, il_0, il_1, il_2, il_3, il_4, il_7, il_9, il_10, il_26, il_4096, r6.1, y_within, y_get (s_15 F) (by decide), rd_in]), rfl, (by simp (disch := first | decide | omega | (simp (disch := first | decide | omega) only [sv_s, sv_o, ur_s, ur_e, ur_o]; omega)) only [↓reduceIte, iv_add, iv_sub, iv_mul, iv_neg, iv_ltT, iv_ltF, iv_leT, iv_leF, iv_eqT, iv_eqF, iv_div, iv_mod, ↓bnI_s, ↓bnV_s, ↓bnJ_s, ↓bnR_s, rt_e, rt_0, rt_bz, sv_s, sv_o, ur_s, ur_e, ur_o, bz_T, bz_F, nat_eqF, Nat.reduceAdd, ↓q_M_book, ↓q_M_lineOf, ↓gR_435_0 F, ↓lI_436 F, ↓lI_437 F, ↓lI_438 F, ↓lI_439 F, ↓lI_440 F, ↓lI_441 F, ↓lI_443 F, ↓lI_444 F, ↓lI_445 F, ↓lI_446 F, ↓lI_447 F, ↓lI_448 F, ↓lI_449 F, ↓lI_450 F, ↓gd_435 F, il_0, il_1, il_2, il_3, il_6, il_7, il_9, il_11, il_27, il_64, il_448, il_1425, il_2688, y_isIn, ba.1]), rfl⟩
        · exact ⟨V 15 i / 512 % 8, V, J, V, J, (by simp (disch := first | decide | omega | (simp (disch := first | decide | omega) only [sv_s, sv_o, ur_s, ur_e, ur_o]; omega)) only [↓reduceIte, iv_add, iv_sub, iv_mul, iv_neg, iv_ltT, iv_ltF, iv_leT, iv_leF, iv_eqT, iv_eqF, iv_div, iv_mod, ↓bnI_s, ↓bnV_s, ↓bnJ_s, ↓bnR_s, rt_e, rt_0, rt_bz, sv_s, sv_o, ur_s, ur_e, ur_o, bz_T, bz_F, nat_eqF, Nat.reduceAdd, ↓q_X_book, ↓q_Table_whoOf, ↓gR_8_0 F, ↓gR_9_0 F, ↓gI_10_9 F, ↓gR_10_4 F, ↓gd_8 F, il_0, il_1, il_2, il_3, il_4, il_7, il_8, il_9, il_10, il_26, il_512, r6.1, y_within, y_get (s_15 F) (by decide), rd_in]), rfl, (by simp (disch := first | decide | omega | (simp (disch := first | decide | omega) only [sv_s, sv_o, ur_s, ur_e, ur_o]; omega)) only [↓reduceIte, iv_add, iv_sub, iv_mul, iv_neg, iv_ltT, iv_ltF, iv_leT, iv_leF, iv_eqT, iv_eqF, iv_div, iv_mod, ↓bnI_s, ↓bnV_s, ↓bnJ_s, ↓bnR_s, rt_e, rt_0, rt_bz, sv_s, sv_o, ur_s, ur_e, ur_o, bz_T, bz_F, nat_eqF, Nat.reduceAdd, ↓q_M_book, ↓q_M_lineOf, ↓gR_435_0 F, ↓lI_436 F, ↓lI_437 F, ↓lI_438 F, ↓lI_439 F, ↓lI_440 F, ↓lI_441 F, ↓lI_443 F, ↓lI_444 F, ↓lI_445 F, ↓lI_446 F, ↓lI_447 F, ↓lI_448 F, ↓lI_449 F, ↓lI_450 F, ↓gd_435 F, il_0, il_1, il_2, il_3, il_6, il_7, il_9, il_11, il_27, il_64, il_448, il_1425, il_2688, y_isIn, ba.2.1]), rfl⟩
        · exact ⟨V 15 i / 8 % 64, V, J, V, J, (by simp (disch := first | decide | omega | (simp (disch := first | decide | omega) only [sv_s, sv_o, ur_s, ur_e, ur_o]; omega)) only [↓reduceIte, iv_add, iv_sub, iv_mul, iv_neg, iv_ltT, iv_ltF, iv_leT, iv_leF, iv_eqT, iv_eqF, iv_div, iv_mod, ↓bnI_s, ↓bnV_s, ↓bnJ_s, ↓bnR_s, rt_e, rt_0, rt_bz, sv_s, sv_o, ur_s, ur_e, ur_o, bz_T, bz_F, nat_eqF, Nat.reduceAdd, ↓q_X_book, ↓q_Table_throughOf, ↓gR_8_0 F, ↓gR_9_0 F, ↓gI_10_9 F, ↓gR_10_4 F, ↓gd_8 F, il_0, il_1, il_2, il_3, il_4, il_7, il_8, il_9, il_10, il_26, il_64, r6.1, y_within, y_get (s_15 F) (by decide), rd_in]), rfl, (by simp (disch := first | decide | omega | (simp (disch := first | decide | omega) only [sv_s, sv_o, ur_s, ur_e, ur_o]; omega)) only [↓reduceIte, iv_add, iv_sub, iv_mul, iv_neg, iv_ltT, iv_ltF, iv_leT, iv_leF, iv_eqT, iv_eqF, iv_div, iv_mod, ↓bnI_s, ↓bnV_s, ↓bnJ_s, ↓bnR_s, rt_e, rt_0, rt_bz, sv_s, sv_o, ur_s, ur_e, ur_o, bz_T, bz_F, nat_eqF, Nat.reduceAdd, ↓q_M_book, ↓q_M_lineOf, ↓gR_435_0 F, ↓lI_436 F, ↓lI_437 F, ↓lI_438 F, ↓lI_439 F, ↓lI_440 F, ↓lI_441 F, ↓lI_443 F, ↓lI_444 F, ↓lI_445 F, ↓lI_446 F, ↓lI_447 F, ↓lI_448 F, ↓lI_449 F, ↓lI_450 F, ↓gd_435 F, il_0, il_1, il_2, il_3, il_6, il_7, il_9, il_11, il_27, il_64, il_448, il_1425, il_2688, y_isIn, ba.2.2.1]), rfl⟩
        · exact ⟨V 15 i % 8 - 1, V, J, V, J, (by simp (disch := first | decide | omega | (simp (disch := first | decide | omega) only [sv_s, sv_o, ur_s, ur_e, ur_o]; omega)) only [↓reduceIte, iv_add, iv_sub, iv_mul, iv_neg, iv_ltT, iv_ltF, iv_leT, iv_leF, iv_eqT, iv_eqF, iv_div, iv_mod, ↓bnI_s, ↓bnV_s, ↓bnJ_s, ↓bnR_s, rt_e, rt_0, rt_bz, sv_s, sv_o, ur_s, ur_e, ur_o, bz_T, bz_F, nat_eqF, Nat.reduceAdd, ↓q_X_book, ↓q_Table_stuckOf, ↓gR_8_0 F, ↓gR_9_0 F, ↓gI_10_9 F, ↓gR_10_4 F, ↓gd_8 F, il_0, il_1, il_2, il_3, il_4, il_7, il_8, il_9, il_10, il_26, r6.1, y_within, y_get (s_15 F) (by decide), rd_in]), rfl, (by simp (disch := first | decide | omega | (simp (disch := first | decide | omega) only [sv_s, sv_o, ur_s, ur_e, ur_o]; omega)) only [↓reduceIte, iv_add, iv_sub, iv_mul, iv_neg, iv_ltT, iv_ltF, iv_leT, iv_leF, iv_eqT, iv_eqF, iv_div, iv_mod, ↓bnI_s, ↓bnV_s, ↓bnJ_s, ↓bnR_s, rt_e, rt_0, rt_bz, sv_s, sv_o, ur_s, ur_e, ur_o, bz_T, bz_F, nat_eqF, Nat.reduceAdd, ↓q_M_book, ↓q_M_lineOf, ↓gR_435_0 F, ↓lI_436 F, ↓lI_437 F, ↓lI_438 F, ↓lI_439 F, ↓lI_440 F, ↓lI_441 F, ↓lI_443 F, ↓lI_444 F, ↓lI_445 F, ↓lI_446 F, ↓lI_447 F, ↓lI_448 F, ↓lI_449 F, ↓lI_450 F, ↓gd_435 F, il_0, il_1, il_2, il_3, il_6, il_7, il_9, il_11, il_27, il_64, il_448, il_1425, il_2688, y_isIn, ba.2.2.2]), rfl⟩
      · exact ⟨-2, V, J, V, J, (by simp (disch := first | decide | omega | (simp (disch := first | decide | omega) only [sv_s, sv_o, ur_s, ur_e, ur_o]; omega)) only [↓reduceIte, iv_add, iv_sub, iv_mul, iv_neg, iv_ltT, iv_ltF, iv_leT, iv_leF, iv_eqT, iv_eqF, iv_div, iv_mod, ↓bnI_s, ↓bnV_s, ↓bnJ_s, ↓bnR_s, rt_e, rt_0, rt_bz, sv_s, sv_o, ur_s, ur_e, ur_o, bz_T, bz_F, nat_eqF, Nat.reduceAdd, ↓q_X_book, ↓gR_8_0 F, ↓gR_9_0 F, ↓gI_10_9 F, ↓gR_10_4 F, ↓gd_8 F, il_0, il_1, il_2, il_3, il_4, il_7, il_9, il_10, il_26, r6.1, y_within, y_get (s_15 F) (by decide), rd_in]), rfl, (by simp (disch := first | decide | omega | (simp (disch := first | decide | omega) only [sv_s, sv_o, ur_s, ur_e, ur_o]; omega)) only [↓reduceIte, iv_add, iv_sub, iv_mul, iv_neg, iv_ltT, iv_ltF, iv_leT, iv_leF, iv_eqT, iv_eqF, iv_div, iv_mod, ↓bnI_s, ↓bnV_s, ↓bnJ_s, ↓bnR_s, rt_e, rt_0, rt_bz, sv_s, sv_o, ur_s, ur_e, ur_o, bz_T, bz_F, nat_eqF, Nat.reduceAdd, ↓q_M_book, ↓gR_435_0 F, ↓lI_436 F, ↓lI_437 F, ↓lI_438 F, ↓lI_439 F, ↓lI_440 F, ↓lI_441 F, ↓lI_443 F, ↓lI_444 F, ↓lI_445 F, ↓lI_446 F, ↓lI_447 F, ↓lI_448 F, ↓lI_449 F, ↓lI_450 F, ↓gd_435 F, il_0, il_1, il_2, il_3, il_9, il_11, il_27, y_isIn]), rfl⟩
    · exact ⟨-2, V, J, V, J, (by simp (disch := first | decide | omega | (simp (disch := first | decide | omega) only [sv_s, sv_o, ur_s, ur_e, ur_o]; omega)) only [↓reduceIte, iv_add, iv_sub, iv_mul, iv_neg, iv_ltT, iv_ltF, iv_leT, iv_leF, iv_eqT, iv_eqF, iv_div, iv_mod, ↓bnI_s, ↓bnV_s, ↓bnJ_s, ↓bnR_s, rt_e, rt_0, rt_bz, sv_s, sv_o, ur_s, ur_e, ur_o, bz_T, bz_F, nat_eqF, Nat.reduceAdd, ↓q_X_book, ↓gR_8_0 F, ↓gR_9_0 F, ↓gI_10_9 F, ↓gR_10_4 F, ↓gd_8 F, il_0, il_1, il_2, il_3, il_4, il_7, il_9, il_10, il_26, r6.1, y_within]), rfl, (by simp (disch := first | decide | omega | (simp (disch := first | decide | omega) only [sv_s, sv_o, ur_s, ur_e, ur_o]; omega)) only [↓reduceIte, iv_add, iv_sub, iv_mul, iv_neg, iv_ltT, iv_ltF, iv_leT, iv_leF, iv_eqT, iv_eqF, iv_div, iv_mod, ↓bnI_s, ↓bnV_s, ↓bnJ_s, ↓bnR_s, rt_e, rt_0, rt_bz, sv_s, sv_o, ur_s, ur_e, ur_o, bz_T, bz_F, nat_eqF, Nat.reduceAdd, ↓q_M_book, ↓gR_435_0 F, ↓lI_436 F, ↓lI_437 F, ↓lI_438 F, ↓lI_439 F, ↓lI_440 F, ↓lI_441 F, ↓lI_443 F, ↓lI_444 F, ↓lI_445 F, ↓lI_446 F, ↓lI_447 F, ↓lI_448 F, ↓lI_449 F, ↓lI_450 F, ↓gd_435 F, il_0, il_1, il_2, il_3, il_9, il_11, il_27, y_isIn]), rfl⟩
/-- how many of the first lines tell of one -/
def lcnt (B : Int → Int) (w : Int) : Nat → Int
  | 0 => 0
  | k + 1 => lcnt B w k + (if B k / 512 % 8 = w then 1 else 0)
theorem lcnt_rg (B : Int → Int) (w : Int) : ∀ m : Nat, 0 ≤ lcnt B w m ∧ lcnt B w m ≤ m := by
  intro m
  induction m with
  | zero => exact ⟨Int.le_refl _, Int.le_refl _⟩
  | succ m ih =>
    show 0 ≤ lcnt B w m + (if B m / 512 % 8 = w then 1 else 0) ∧ lcnt B w m + (if B m / 512 % 8 = w then 1 else 0) ≤ ((m + 1 : Nat) : Int)
    split <;> omega
theorem y_lines_l (F : Fix z) {N : Int} (h9 : V 10 9 = N) (hN : 0 ≤ N ∧ N ≤ 25) (hb : ∀ i, 0 ≤ i → i < N → 0 ≤ V 15 i ∧ V 15 i < 2147483648) {w : Int} (hw : (-2147483648 ≤ w ∧ w < 2147483648)) : ∀ (m k : Nat), k + m = N → rX m_Table_linesOf m_Table_linesOf 4 [.ref 10, .int (iv w), .int (iv (lcnt (V 15) w k)), .int (iv k)] [] (em V J z) = some (.int (iv (lcnt (V 15) w N.toNat)), em V J z) := by
  have T := T10 F
  intro m
  induction m with
  | zero =>
    intro k hk
    rw [show N.toNat = k by omega]
    (rw [q_Table_linesOf_4]; simp (disch := first | decide | omega | (simp (disch := first | decide | omega) only [sv_s, sv_o, ur_s, ur_e, ur_o]; omega)) only [↓reduceIte, iv_add, iv_sub, iv_mul, iv_neg, iv_ltT, iv_ltF, iv_leT, iv_leF, iv_eqT, iv_eqF, iv_div, iv_mod, ↓bnI_s, ↓bnV_s, ↓bnJ_s, ↓bnR_s, rt_e, rt_0, rt_bz, sv_s, sv_o, ur_s, ur_e, ur_o, bz_T, bz_F, nat_eqF, Nat.reduceAdd, ↓gT_9 T, ↓rT_4 T, il_0, il_1, il_4, il_7, il_9, h9])
  | succ m ih =>
    intro k hk
    have b := hb k (by omega) (by omega)
    rw [← ih (k + 1) (by omega)]
    show _ = rX m_Table_linesOf m_Table_linesOf 4 [.ref 10, .int (iv w), .int (iv (lcnt (V 15) w k + (if V 15 k / 512 % 8 = w then 1 else 0))), .int (iv ((k + 1 : Nat) : Int))] [] (em V J z)
    by_cases q : V 15 k / 512 % 8 = w
    · rw [if_pos q]
      (rw [q_Table_linesOf_4]; simp (disch := first | decide | omega | (simp (disch := first | decide | omega) only [sv_s, sv_o, ur_s, ur_e, ur_o]; omega)) only [↓reduceIte, iv_add, iv_sub, iv_mul, iv_neg, iv_ltT, iv_ltF, iv_leT, iv_leF, iv_eqT, iv_eqF, iv_div, iv_mod, ↓bnI_s, ↓bnV_s, ↓bnJ_s, ↓bnR_s, rt_e, rt_0, rt_bz, sv_s, sv_o, ur_s, ur_e, ur_o, bz_T, bz_F, nat_eqF, Nat.reduceAdd, ↓gT_9 T, ↓rT_4 T, il_0, il_1, il_4, il_7, il_9, ↓q_Table_whoOf, il_512, il_8, h9, y_get (s_15 F) (by decide), rd_in, q, Int.natCast_add, Int.natCast_one])
    · rw [if_neg q]
      (rw [q_Table_linesOf_4]; simp (disch := first | decide | omega | (simp (disch := first | decide | omega) only [sv_s, sv_o, ur_s, ur_e, ur_o]; omega)) only [↓reduceIte, iv_add, iv_sub, iv_mul, iv_neg, iv_ltT, iv_ltF, iv_leT, iv_leF, iv_eqT, iv_eqF, iv_div, iv_mod, ↓bnI_s, ↓bnV_s, ↓bnJ_s, ↓bnR_s, rt_e, rt_0, rt_bz, sv_s, sv_o, ur_s, ur_e, ur_o, bz_T, bz_F, nat_eqF, Nat.reduceAdd, ↓gT_9 T, ↓rT_4 T, il_0, il_1, il_4, il_7, il_9, ↓q_Table_whoOf, il_512, il_8, h9, y_get (s_15 F) (by decide), rd_in, Int.natCast_add, Int.natCast_one])
theorem y_M_ledger_l (F : Fix z) (hN : 0 ≤ V 436 9 ∧ V 436 9 ≤ 25) {B : Int → Int} (hb : ∀ i, 0 ≤ i → i < V 436 9 → Bk (B i) (V 436 (1425 + i))) {w : Int} (hw : 0 ≤ w ∧ w < 6) : ∀ (m k : Nat), k + m = V 436 9 → rX m_M_ledger m_M_ledger 20 [.ref 435, .int (iv w), .int (iv (lcnt B w k)), .int (iv k)] [] (em V J z) = some (.int (iv (lcnt B w (V 436 9).toNat)), em V J z) := by
  intro m
  induction m with
  | zero =>
    intro k hk
    rw [show (V 436 9).toNat = k by omega]
    (rw [q_M_ledger_20]; simp (disch := first | decide | omega | (simp (disch := first | decide | omega) only [sv_s, sv_o, ur_s, ur_e, ur_o]; omega)) only [↓reduceIte, iv_add, iv_sub, iv_mul, iv_neg, iv_ltT, iv_ltF, iv_leT, iv_leF, iv_eqT, iv_eqF, iv_div, iv_mod, ↓bnI_s, ↓bnV_s, ↓bnJ_s, ↓bnR_s, rt_e, rt_0, rt_bz, sv_s, sv_o, ur_s, ur_e, ur_o, bz_T, bz_F, nat_eqF, Nat.reduceAdd, ↓gR_435_0 F, ↓lI_436 F, ↓lI_437 F, ↓lI_438 F, ↓lI_439 F, ↓lI_440 F, ↓lI_441 F, ↓lI_443 F, ↓lI_444 F, ↓lI_445 F, ↓lI_446 F, ↓lI_447 F, ↓lI_448 F, ↓lI_449 F, ↓lI_450 F, il_0, il_1, il_9, il_11, il_20])
  | succ m ih =>
    intro k hk
    have b := hb k (by omega) (by omega)
    have br := b.rg
    have ba := b.at
    have e : cA m_M_lineOf [.ref 435, .int (iv k), .int (iv 1)] (em V J z) = some (.int (iv (B k / 512 % 8)), em V J z) := by
      rw [ba.2.1]
      simp (disch := first | decide | omega | (simp (disch := first | decide | omega) only [sv_s, sv_o, ur_s, ur_e, ur_o]; omega)) only [↓reduceIte, iv_add, iv_sub, iv_mul, iv_neg, iv_ltT, iv_ltF, iv_leT, iv_leF, iv_eqT, iv_eqF, iv_div, iv_mod, ↓bnI_s, ↓bnV_s, ↓bnJ_s, ↓bnR_s, rt_e, rt_0, rt_bz, sv_s, sv_o, ur_s, ur_e, ur_o, bz_T, bz_F, nat_eqF, Nat.reduceAdd, ↓q_M_lineOf, ↓gR_435_0 F, ↓lI_436 F, ↓lI_437 F, ↓lI_438 F, ↓lI_439 F, ↓lI_440 F, ↓lI_441 F, ↓lI_443 F, ↓lI_444 F, ↓lI_445 F, ↓lI_446 F, ↓lI_447 F, ↓lI_448 F, ↓lI_449 F, ↓lI_450 F, ↓gd_435 F, il_0, il_1, il_2, il_6, il_7, il_11, il_27, il_64, il_448, il_1425, il_2688]
    rw [← ih (k + 1) (by omega)]
    show _ = rX m_M_ledger m_M_ledger 20 [.ref 435, .int (iv w), .int (iv (lcnt B w k + (if B k / 512 % 8 = w then 1 else 0))), .int (iv ((k + 1 : Nat) : Int))] [] (em V J z)
    by_cases q : B k / 512 % 8 = w
    · rw [if_pos q]
      rw [q] at e
      (rw [q_M_ledger_20]; simp (disch := first | decide | omega | (simp (disch := first | decide | omega) only [sv_s, sv_o, ur_s, ur_e, ur_o]; omega)) only [↓reduceIte, iv_add, iv_sub, iv_mul, iv_neg, iv_ltT, iv_ltF, iv_leT, iv_leF, iv_eqT, iv_eqF, iv_div, iv_mod, ↓bnI_s, ↓bnV_s, ↓bnJ_s, ↓bnR_s, rt_e, rt_0, rt_bz, sv_s, sv_o, ur_s, ur_e, ur_o, bz_T, bz_F, nat_eqF, Nat.reduceAdd, ↓gR_435_0 F, ↓lI_436 F, ↓lI_437 F, ↓lI_438 F, ↓lI_439 F, ↓lI_440 F, ↓lI_441 F, ↓lI_443 F, ↓lI_444 F, ↓lI_445 F, ↓lI_446 F, ↓lI_447 F, ↓lI_448 F, ↓lI_449 F, ↓lI_450 F, il_0, il_1, il_9, il_11, il_20, e, Int.natCast_add, Int.natCast_one])
    · rw [if_neg q]
      (rw [q_M_ledger_20]; simp (disch := first | decide | omega | (simp (disch := first | decide | omega) only [sv_s, sv_o, ur_s, ur_e, ur_o]; omega)) only [↓reduceIte, iv_add, iv_sub, iv_mul, iv_neg, iv_ltT, iv_ltF, iv_leT, iv_leF, iv_eqT, iv_eqF, iv_div, iv_mod, ↓bnI_s, ↓bnV_s, ↓bnJ_s, ↓bnR_s, rt_e, rt_0, rt_bz, sv_s, sv_o, ur_s, ur_e, ur_o, bz_T, bz_F, nat_eqF, Nat.reduceAdd, ↓gR_435_0 F, ↓lI_436 F, ↓lI_437 F, ↓lI_438 F, ↓lI_439 F, ↓lI_440 F, ↓lI_441 F, ↓lI_443 F, ↓lI_444 F, ↓lI_445 F, ↓lI_446 F, ↓lI_447 F, ↓lI_448 F, ↓lI_449 F, ↓lI_450 F, il_0, il_1, il_9, il_11, il_20, e, Int.natCast_add, Int.natCast_one])
theorem y_M_ledger_n (F : Fix z) (hN : 0 ≤ V 436 9 ∧ V 436 9 ≤ 25) : ∀ (m k : Nat), k + m = V 436 9 → rX m_M_ledger m_M_ledger 20 [.ref 435, .int (iv (-1)), .int (iv k), .int (iv k)] [] (em V J z) = some (.int (iv (V 436 9)), em V J z) := by
  intro m
  induction m with
  | zero =>
    intro k hk
    (rw [q_M_ledger_20]; simp (disch := first | decide | omega | (simp (disch := first | decide | omega) only [sv_s, sv_o, ur_s, ur_e, ur_o]; omega)) only [↓reduceIte, iv_add, iv_sub, iv_mul, iv_neg, iv_ltT, iv_ltF, iv_leT, iv_leF, iv_eqT, iv_eqF, iv_div, iv_mod, ↓bnI_s, ↓bnV_s, ↓bnJ_s, ↓bnR_s, rt_e, rt_0, rt_bz, sv_s, sv_o, ur_s, ur_e, ur_o, bz_T, bz_F, nat_eqF, Nat.reduceAdd, ↓gR_435_0 F, ↓lI_436 F, ↓lI_437 F, ↓lI_438 F, ↓lI_439 F, ↓lI_440 F, ↓lI_441 F, ↓lI_443 F, ↓lI_444 F, ↓lI_445 F, ↓lI_446 F, ↓lI_447 F, ↓lI_448 F, ↓lI_449 F, ↓lI_450 F, il_0, il_1, il_9, il_11, il_20])
    exact si (by omega)
  | succ m ih =>
    intro k hk
    rw [← ih (k + 1) (by omega)]
    (rw [q_M_ledger_20]; simp (disch := first | decide | omega | (simp (disch := first | decide | omega) only [sv_s, sv_o, ur_s, ur_e, ur_o]; omega)) only [↓reduceIte, iv_add, iv_sub, iv_mul, iv_neg, iv_ltT, iv_ltF, iv_leT, iv_leF, iv_eqT, iv_eqF, iv_div, iv_mod, ↓bnI_s, ↓bnV_s, ↓bnJ_s, ↓bnR_s, rt_e, rt_0, rt_bz, sv_s, sv_o, ur_s, ur_e, ur_o, bz_T, bz_F, nat_eqF, Nat.reduceAdd, ↓gR_435_0 F, ↓lI_436 F, ↓lI_437 F, ↓lI_438 F, ↓lI_439 F, ↓lI_440 F, ↓lI_441 F, ↓lI_443 F, ↓lI_444 F, ↓lI_445 F, ↓lI_446 F, ↓lI_447 F, ↓lI_448 F, ↓lI_449 F, ↓lI_450 F, il_0, il_1, il_9, il_11, il_20, Int.natCast_add, Int.natCast_one])
theorem p_ledger (F : Fix z) (g : GI TX I0 V z) {w : Int} (hw : (-2147483648 ≤ w ∧ w < 2147483648)) : Pq V J z (fun h => cA m_X_ledger [.ref 8, .int (iv w)] h) (fun h => cA m_M_ledger [.ref 435, .int (iv w)] h) := by
  obtain ⟨n1, n2, n3, r1, r2, r3, r4, r5, r6, r7⟩ := g.1.1
  have n1 : V 10 5 = V 436 0 := n1
  have r6 : V 10 9 = V 436 9 ∧ 0 ≤ V 436 9 ∧ V 436 9 ≤ 25 := r6
  have r7 : ∀ i, 0 ≤ i → i < V 436 9 → Bk (V 15 i) (V 436 (1425 + i)) := r7
  by_cases h0 : w = -1
  · subst h0
    have e := y_M_ledger_n (V := V) (J := J) F r6.2 (V 436 9).toNat 0 (by omega)
    have e : rX m_M_ledger m_M_ledger 20 [.ref 435, .int (iv (-1)), .int (iv 0), .int (iv 0)] [] (em V J z) = some (.int (iv (V 436 9)), em V J z) := e
    exact ⟨V 436 9, V, J, V, J, (by simp (disch := first | decide | omega | (simp (disch := first | decide | omega) only [sv_s, sv_o, ur_s, ur_e, ur_o]; omega)) only [↓reduceIte, iv_add, iv_sub, iv_mul, iv_neg, iv_ltT, iv_ltF, iv_leT, iv_leF, iv_eqT, iv_eqF, iv_div, iv_mod, ↓bnI_s, ↓bnV_s, ↓bnJ_s, ↓bnR_s, rt_e, rt_0, rt_bz, sv_s, sv_o, ur_s, ur_e, ur_o, bz_T, bz_F, nat_eqF, Nat.reduceAdd, ↓q_X_ledger, ↓gR_8_0 F, ↓gR_9_0 F, ↓gI_10_9 F, ↓gd_8 F, il_0, il_1, il_2, il_7, il_9, il_10, il_26, r6.1]), rfl, (by simp (disch := first | decide | omega | (simp (disch := first | decide | omega) only [sv_s, sv_o, ur_s, ur_e, ur_o]; omega)) only [↓reduceIte, iv_add, iv_sub, iv_mul, iv_neg, iv_ltT, iv_ltF, iv_leT, iv_leF, iv_eqT, iv_eqF, iv_div, iv_mod, ↓bnI_s, ↓bnV_s, ↓bnJ_s, ↓bnR_s, rt_e, rt_0, rt_bz, sv_s, sv_o, ur_s, ur_e, ur_o, bz_T, bz_F, nat_eqF, Nat.reduceAdd, ↓q_M_ledger, ↓gd_435 F, il_0, il_1, il_2, il_20, il_27, e]), rfl⟩
  · by_cases h1 : 0 ≤ w ∧ w < V 436 0
    · have e1 : cA m_Table_linesOf [.ref 10, .int (iv w)] (em V J z) = some (.int (iv (lcnt (V 15) w (V 436 9).toNat)), em V J z) := by
        rw [← y_lines_l F r6.1 r6.2 (fun i i0 i1 => (r7 i i0 i1).rg.1) hw (V 436 9).toNat 0 (by omega), q_Table_linesOf, gd_10 F, il_0]
        rfl
      have e2 : rX m_M_ledger m_M_ledger 20 [.ref 435, .int (iv w), .int (iv 0), .int (iv 0)] [] (em V J z) = some (.int (iv (lcnt (V 15) w (V 436 9).toNat)), em V J z) := y_M_ledger_l (V := V) (J := J) F r6.2 r7 (w := w) (by omega) (V 436 9).toNat 0 (by omega)
      exact ⟨lcnt (V 15) w (V 436 9).toNat, V, J, V, J, (by simp (disch := first | decide | omega | (simp (disch := first | decide | omega) only [sv_s, sv_o, ur_s, ur_e, ur_o]; omega)) only [↓reduceIte, iv_add, iv_sub, iv_mul, iv_neg, iv_ltT, iv_ltF, iv_leT, iv_leF, iv_eqT, iv_eqF, iv_div, iv_mod, ↓bnI_s, ↓bnV_s, ↓bnJ_s, ↓bnR_s, rt_e, rt_0, rt_bz, sv_s, sv_o, ur_s, ur_e, ur_o, bz_T, bz_F, nat_eqF, Nat.reduceAdd, ↓q_X_ledger, ↓gR_8_0 F, ↓gR_9_0 F, ↓gI_10_9 F, ↓gd_8 F, il_0, il_1, il_2, il_7, il_9, il_10, il_26, y_has (T10 F), e1]), rfl, (by simp (disch := first | decide | omega | (simp (disch := first | decide | omega) only [sv_s, sv_o, ur_s, ur_e, ur_o]; omega)) only [↓reduceIte, iv_add, iv_sub, iv_mul, iv_neg, iv_ltT, iv_ltF, iv_leT, iv_leF, iv_eqT, iv_eqF, iv_div, iv_mod, ↓bnI_s, ↓bnV_s, ↓bnJ_s, ↓bnR_s, rt_e, rt_0, rt_bz, sv_s, sv_o, ur_s, ur_e, ur_o, bz_T, bz_F, nat_eqF, Nat.reduceAdd, ↓q_M_ledger, ↓gd_435 F, il_0, il_1, il_2, il_20, il_27, y_isKin F, e2]), rfl⟩
    · exact ⟨-2, V, J, V, J, (by simp (disch := first | decide | omega | (simp (disch := first | decide | omega) only [sv_s, sv_o, ur_s, ur_e, ur_o]; omega)) only [↓reduceIte, iv_add, iv_sub, iv_mul, iv_neg, iv_ltT, iv_ltF, iv_leT, iv_leF, iv_eqT, iv_eqF, iv_div, iv_mod, ↓bnI_s, ↓bnV_s, ↓bnJ_s, ↓bnR_s, rt_e, rt_0, rt_bz, sv_s, sv_o, ur_s, ur_e, ur_o, bz_T, bz_F, nat_eqF, Nat.reduceAdd, ↓q_X_ledger, ↓gR_8_0 F, ↓gR_9_0 F, ↓gI_10_9 F, ↓gd_8 F, il_0, il_1, il_2, il_7, il_9, il_10, il_26, y_has (T10 F)]), rfl, (by simp (disch := first | decide | omega | (simp (disch := first | decide | omega) only [sv_s, sv_o, ur_s, ur_e, ur_o]; omega)) only [↓reduceIte, iv_add, iv_sub, iv_mul, iv_neg, iv_ltT, iv_ltF, iv_leT, iv_leF, iv_eqT, iv_eqF, iv_div, iv_mod, ↓bnI_s, ↓bnV_s, ↓bnJ_s, ↓bnR_s, rt_e, rt_0, rt_bz, sv_s, sv_o, ur_s, ur_e, ur_o, bz_T, bz_F, nat_eqF, Nat.reduceAdd, ↓q_M_ledger, ↓gd_435 F, il_0, il_1, il_2, il_20, il_27, y_isKin F]), rfl⟩
/-! FULLEST, CALM -/
theorem y_most_l (F : Fix z) {A : Int → Int} (hn : V 10 5 = A 0) (n : 0 ≤ A 0 ∧ A 0 ≤ 6) (R : Tr V 10 (A 0) A) (hA : V 436 = A) : ∀ (m : Nat) (k b x : Int), 0 ≤ k → k + m = A 0 → (-1 ≤ b ∧ b < k) → x = (if b = -1 then 0 else A (11 + b)) → ∃ e, rX m_Table_whoKeptMost m_Table_whoKeptMost 6 [.ref 10, .int (iv b), .int (iv x), .int (iv k)] [] (em V J z) = some (.int (iv e), em V J z) ∧ rX m_M_fullest m_M_fullest 4 [.ref 435, .int (iv b), .int (iv k)] [] (em V J z) = some (.int (iv e), em V J z) := by
  have T := T10 F
  intro m
  induction m with
  | zero =>
    intro k b x k0 hk hb hx
    refine ⟨b, ?_, ?_⟩
    · (rw [q_Table_whoKeptMost_6]; simp (disch := first | decide | omega | (simp (disch := first | decide | omega) only [sv_s, sv_o, ur_s, ur_e, ur_o]; omega)) only [↓reduceIte, iv_add, iv_sub, iv_mul, iv_neg, iv_ltT, iv_ltF, iv_leT, iv_leF, iv_eqT, iv_eqF, iv_div, iv_mod, ↓bnI_s, ↓bnV_s, ↓bnJ_s, ↓bnR_s, rt_e, rt_0, rt_bz, sv_s, sv_o, ur_s, ur_e, ur_o, bz_T, bz_F, nat_eqF, Nat.reduceAdd, ↓gT_5 T, ↓rT_1 T, il_0, il_1, il_5, il_6, il_7, hn])
    · (rw [q_M_fullest_4]; simp (disch := first | decide | omega | (simp (disch := first | decide | omega) only [sv_s, sv_o, ur_s, ur_e, ur_o]; omega)) only [↓reduceIte, iv_add, iv_sub, iv_mul, iv_neg, iv_ltT, iv_ltF, iv_leT, iv_leF, iv_eqT, iv_eqF, iv_div, iv_mod, ↓bnI_s, ↓bnV_s, ↓bnJ_s, ↓bnR_s, rt_e, rt_0, rt_bz, sv_s, sv_o, ur_s, ur_e, ur_o, bz_T, bz_F, nat_eqF, Nat.reduceAdd, ↓gR_435_0 F, ↓lI_436 F, ↓lI_437 F, ↓lI_438 F, ↓lI_439 F, ↓lI_440 F, ↓lI_441 F, ↓lI_443 F, ↓lI_444 F, ↓lI_445 F, ↓lI_446 F, ↓lI_447 F, ↓lI_448 F, ↓lI_449 F, ↓lI_450 F, il_0, il_1, il_4, il_11, hA])
  | succ m ih =>
    intro k b x k0 hk hb hx
    have d := R.1 k k0 (by omega)
    have d1 : V 12 k = A (11 + k) := d.1
    have d4 := d.2.2.2.1
    by_cases h0 : b = -1
    · subst h0
      rw [if_pos rfl] at hx
      subst hx
      by_cases q : 0 < A (11 + k)
      · obtain ⟨e, e1, e2⟩ := ih (k + 1) k (A (11 + k)) (by omega) (by omega) (by omega) (by rw [if_neg (by omega)])
        refine ⟨e, ?_, ?_⟩
        · rw [← e1]; (rw [q_Table_whoKeptMost_6]; simp (disch := first | decide | omega | (simp (disch := first | decide | omega) only [sv_s, sv_o, ur_s, ur_e, ur_o]; omega)) only [↓reduceIte, iv_add, iv_sub, iv_mul, iv_neg, iv_ltT, iv_ltF, iv_leT, iv_leF, iv_eqT, iv_eqF, iv_div, iv_mod, ↓bnI_s, ↓bnV_s, ↓bnJ_s, ↓bnR_s, rt_e, rt_0, rt_bz, sv_s, sv_o, ur_s, ur_e, ur_o, bz_T, bz_F, nat_eqF, Nat.reduceAdd, ↓gT_5 T, ↓rT_1 T, il_0, il_1, il_5, il_6, il_7, hn, y_get (s_12 F) (by decide), rd_in, d1])
        · rw [← e2]; (rw [q_M_fullest_4]; simp (disch := first | decide | omega | (simp (disch := first | decide | omega) only [sv_s, sv_o, ur_s, ur_e, ur_o]; omega)) only [↓reduceIte, iv_add, iv_sub, iv_mul, iv_neg, iv_ltT, iv_ltF, iv_leT, iv_leF, iv_eqT, iv_eqF, iv_div, iv_mod, ↓bnI_s, ↓bnV_s, ↓bnJ_s, ↓bnR_s, rt_e, rt_0, rt_bz, sv_s, sv_o, ur_s, ur_e, ur_o, bz_T, bz_F, nat_eqF, Nat.reduceAdd, ↓gR_435_0 F, ↓lI_436 F, ↓lI_437 F, ↓lI_438 F, ↓lI_439 F, ↓lI_440 F, ↓lI_441 F, ↓lI_443 F, ↓lI_444 F, ↓lI_445 F, ↓lI_446 F, ↓lI_447 F, ↓lI_448 F, ↓lI_449 F, ↓lI_450 F, il_0, il_1, il_4, il_11, hA])
      · obtain ⟨e, e1, e2⟩ := ih (k + 1) (-1) 0 (by omega) (by omega) (by omega) (by rw [if_pos rfl])
        refine ⟨e, ?_, ?_⟩
        · rw [← e1]; (rw [q_Table_whoKeptMost_6]; simp (disch := first | decide | omega | (simp (disch := first | decide | omega) only [sv_s, sv_o, ur_s, ur_e, ur_o]; omega)) only [↓reduceIte, iv_add, iv_sub, iv_mul, iv_neg, iv_ltT, iv_ltF, iv_leT, iv_leF, iv_eqT, iv_eqF, iv_div, iv_mod, ↓bnI_s, ↓bnV_s, ↓bnJ_s, ↓bnR_s, rt_e, rt_0, rt_bz, sv_s, sv_o, ur_s, ur_e, ur_o, bz_T, bz_F, nat_eqF, Nat.reduceAdd, ↓gT_5 T, ↓rT_1 T, il_0, il_1, il_5, il_6, il_7, hn, y_get (s_12 F) (by decide), rd_in, d1])
        · rw [← e2]; (rw [q_M_fullest_4]; simp (disch := first | decide | omega | (simp (disch := first | decide | omega) only [sv_s, sv_o, ur_s, ur_e, ur_o]; omega)) only [↓reduceIte, iv_add, iv_sub, iv_mul, iv_neg, iv_ltT, iv_ltF, iv_leT, iv_leF, iv_eqT, iv_eqF, iv_div, iv_mod, ↓bnI_s, ↓bnV_s, ↓bnJ_s, ↓bnR_s, rt_e, rt_0, rt_bz, sv_s, sv_o, ur_s, ur_e, ur_o, bz_T, bz_F, nat_eqF, Nat.reduceAdd, ↓gR_435_0 F, ↓lI_436 F, ↓lI_437 F, ↓lI_438 F, ↓lI_439 F, ↓lI_440 F, ↓lI_441 F, ↓lI_443 F, ↓lI_444 F, ↓lI_445 F, ↓lI_446 F, ↓lI_447 F, ↓lI_448 F, ↓lI_449 F, ↓lI_450 F, il_0, il_1, il_4, il_11, hA])
    · rw [if_neg h0] at hx
      subst hx
      have db := (R.1 b (by omega) (by omega)).2.2.2.1
      by_cases q : A (11 + b) < A (11 + k)
      · obtain ⟨e, e1, e2⟩ := ih (k + 1) k (A (11 + k)) (by omega) (by omega) (by omega) (by rw [if_neg (by omega)])
        refine ⟨e, ?_, ?_⟩
        · rw [← e1]; (rw [q_Table_whoKeptMost_6]; simp (disch := first | decide | omega | (simp (disch := first | decide | omega) only [sv_s, sv_o, ur_s, ur_e, ur_o]; omega)) only [↓reduceIte, iv_add, iv_sub, iv_mul, iv_neg, iv_ltT, iv_ltF, iv_leT, iv_leF, iv_eqT, iv_eqF, iv_div, iv_mod, ↓bnI_s, ↓bnV_s, ↓bnJ_s, ↓bnR_s, rt_e, rt_0, rt_bz, sv_s, sv_o, ur_s, ur_e, ur_o, bz_T, bz_F, nat_eqF, Nat.reduceAdd, ↓gT_5 T, ↓rT_1 T, il_0, il_1, il_5, il_6, il_7, hn, y_get (s_12 F) (by decide), rd_in, d1])
        · rw [← e2]; (rw [q_M_fullest_4]; simp (disch := first | decide | omega | (simp (disch := first | decide | omega) only [sv_s, sv_o, ur_s, ur_e, ur_o]; omega)) only [↓reduceIte, iv_add, iv_sub, iv_mul, iv_neg, iv_ltT, iv_ltF, iv_leT, iv_leF, iv_eqT, iv_eqF, iv_div, iv_mod, ↓bnI_s, ↓bnV_s, ↓bnJ_s, ↓bnR_s, rt_e, rt_0, rt_bz, sv_s, sv_o, ur_s, ur_e, ur_o, bz_T, bz_F, nat_eqF, Nat.reduceAdd, ↓gR_435_0 F, ↓lI_436 F, ↓lI_437 F, ↓lI_438 F, ↓lI_439 F, ↓lI_440 F, ↓lI_441 F, ↓lI_443 F, ↓lI_444 F, ↓lI_445 F, ↓lI_446 F, ↓lI_447 F, ↓lI_448 F, ↓lI_449 F, ↓lI_450 F, il_0, il_1, il_4, il_11, hA])
      · obtain ⟨e, e1, e2⟩ := ih (k + 1) b (A (11 + b)) (by omega) (by omega) (by omega) (by rw [if_neg h0])
        refine ⟨e, ?_, ?_⟩
        · rw [← e1]; (rw [q_Table_whoKeptMost_6]; simp (disch := first | decide | omega | (simp (disch := first | decide | omega) only [sv_s, sv_o, ur_s, ur_e, ur_o]; omega)) only [↓reduceIte, iv_add, iv_sub, iv_mul, iv_neg, iv_ltT, iv_ltF, iv_leT, iv_leF, iv_eqT, iv_eqF, iv_div, iv_mod, ↓bnI_s, ↓bnV_s, ↓bnJ_s, ↓bnR_s, rt_e, rt_0, rt_bz, sv_s, sv_o, ur_s, ur_e, ur_o, bz_T, bz_F, nat_eqF, Nat.reduceAdd, ↓gT_5 T, ↓rT_1 T, il_0, il_1, il_5, il_6, il_7, hn, y_get (s_12 F) (by decide), rd_in, d1])
        · rw [← e2]; (rw [q_M_fullest_4]; simp (disch := first | decide | omega | (simp (disch := first | decide | omega) only [sv_s, sv_o, ur_s, ur_e, ur_o]; omega)) only [↓reduceIte, iv_add, iv_sub, iv_mul, iv_neg, iv_ltT, iv_ltF, iv_leT, iv_leF, iv_eqT, iv_eqF, iv_div, iv_mod, ↓bnI_s, ↓bnV_s, ↓bnJ_s, ↓bnR_s, rt_e, rt_0, rt_bz, sv_s, sv_o, ur_s, ur_e, ur_o, bz_T, bz_F, nat_eqF, Nat.reduceAdd, ↓gR_435_0 F, ↓lI_436 F, ↓lI_437 F, ↓lI_438 F, ↓lI_439 F, ↓lI_440 F, ↓lI_441 F, ↓lI_443 F, ↓lI_444 F, ↓lI_445 F, ↓lI_446 F, ↓lI_447 F, ↓lI_448 F, ↓lI_449 F, ↓lI_450 F, il_0, il_1, il_4, il_11, hA])
theorem p_fullest (F : Fix z) (g : GI TX I0 V z) : Pq V J z (fun h => cA m_X_fullest [.ref 8] h) (fun h => cA m_M_fullest [.ref 435] h) := by
  obtain ⟨n1, n2, n3, n4⟩ := g.1.1
  have n1 : V 10 5 = V 436 0 := n1
  obtain ⟨e, e1, e2⟩ := y_most_l (J := J) F n1 n2 n4 rfl (V 436 0).toNat 0 (-1) 0 (by omega) (by omega) (by omega) (by rw [if_pos rfl])
  have e1 : cA m_Table_whoKeptMost [.ref 10] (em V J z) = some (.int (iv e), em V J z) := by
    rw [← e1, q_Table_whoKeptMost, gd_10 F, il_0, il_1, iv_neg]
  exact ⟨e, V, J, V, J, (by simp (disch := first | decide | omega | (simp (disch := first | decide | omega) only [sv_s, sv_o, ur_s, ur_e, ur_o]; omega)) only [↓reduceIte, iv_add, iv_sub, iv_mul, iv_neg, iv_ltT, iv_ltF, iv_leT, iv_leF, iv_eqT, iv_eqF, iv_div, iv_mod, ↓bnI_s, ↓bnV_s, ↓bnJ_s, ↓bnR_s, rt_e, rt_0, rt_bz, sv_s, sv_o, ur_s, ur_e, ur_o, bz_T, bz_F, nat_eqF, Nat.reduceAdd, ↓q_X_fullest, ↓gR_8_0 F, ↓gR_9_0 F, ↓gd_8 F, il_0, il_1, il_2, il_10, il_26, e1]), rfl, (by show cA _ _ _ = _; rw [← e2, q_M_fullest, gd_435 F, il_0, il_1, iv_neg]), rfl⟩
theorem y_none_l (F : Fix z) {A : Int → Int} (hn : V 10 5 = A 0) (n : 0 ≤ A 0 ∧ A 0 ≤ 6) (R : Tr V 10 (A 0) A) (hA : V 436 = A) : ∀ (m : Nat) (k : Int) (x : Int32), 0 ≤ k → k + m = A 0 → ∃ e, rX m_Table_whoKeptNone m_Table_whoKeptNone 4 [.ref 10, .int x, .int (iv k)] [] (em V J z) = some (.int (iv e), em V J z) ∧ rX m_M_calm m_M_calm 4 [.ref 435, .int x, .int (iv k)] [] (em V J z) = some (.int (iv e), em V J z) := by
  have T := T10 F
  intro m
  induction m with
  | zero =>
    intro k x k0 hk
    refine ⟨x.toInt, ?_, ?_⟩
    · (rw [q_Table_whoKeptNone_4]; simp (disch := first | decide | omega | (simp (disch := first | decide | omega) only [sv_s, sv_o, ur_s, ur_e, ur_o]; omega)) only [↓reduceIte, iv_add, iv_sub, iv_mul, iv_neg, iv_ltT, iv_ltF, iv_leT, iv_leF, iv_eqT, iv_eqF, iv_div, iv_mod, ↓bnI_s, ↓bnV_s, ↓bnJ_s, ↓bnR_s, rt_e, rt_0, rt_bz, sv_s, sv_o, ur_s, ur_e, ur_o, bz_T, bz_F, nat_eqF, Nat.reduceAdd, ↓gT_5 T, ↓rT_1 T, il_0, il_1, il_4, il_5, il_7, il_31, hn, iv_of])
    · (rw [q_M_calm_4]; simp (disch := first | decide | omega | (simp (disch := first | decide | omega) only [sv_s, sv_o, ur_s, ur_e, ur_o]; omega)) only [↓reduceIte, iv_add, iv_sub, iv_mul, iv_neg, iv_ltT, iv_ltF, iv_leT, iv_leF, iv_eqT, iv_eqF, iv_div, iv_mod, ↓bnI_s, ↓bnV_s, ↓bnJ_s, ↓bnR_s, rt_e, rt_0, rt_bz, sv_s, sv_o, ur_s, ur_e, ur_o, bz_T, bz_F, nat_eqF, Nat.reduceAdd, ↓gR_435_0 F, ↓lI_436 F, ↓lI_437 F, ↓lI_438 F, ↓lI_439 F, ↓lI_440 F, ↓lI_441 F, ↓lI_443 F, ↓lI_444 F, ↓lI_445 F, ↓lI_446 F, ↓lI_447 F, ↓lI_448 F, ↓lI_449 F, ↓lI_450 F, il_0, il_1, il_4, il_11, il_31, hA, iv_of])
  | succ m ih =>
    intro k x k0 hk
    have d := R.1 k k0 (by omega)
    have d1 : V 12 k = A (11 + k) := d.1
    have d4 := d.2.2.2.1
    by_cases q : A (11 + k) = 0
    · obtain ⟨e, e1, e2⟩ := ih (k + 1) (x ||| (iv 1 <<< (iv k &&& iv 31))) (by omega) (by omega)
      refine ⟨e, ?_, ?_⟩
      · rw [← e1]; (rw [q_Table_whoKeptNone_4]; simp (disch := first | decide | omega | (simp (disch := first | decide | omega) only [sv_s, sv_o, ur_s, ur_e, ur_o]; omega)) only [↓reduceIte, iv_add, iv_sub, iv_mul, iv_neg, iv_ltT, iv_ltF, iv_leT, iv_leF, iv_eqT, iv_eqF, iv_div, iv_mod, ↓bnI_s, ↓bnV_s, ↓bnJ_s, ↓bnR_s, rt_e, rt_0, rt_bz, sv_s, sv_o, ur_s, ur_e, ur_o, bz_T, bz_F, nat_eqF, Nat.reduceAdd, ↓gT_5 T, ↓rT_1 T, il_0, il_1, il_4, il_5, il_7, il_31, hn, y_get (s_12 F) (by decide), rd_in, d1, q])
      · rw [← e2]; (rw [q_M_calm_4]; simp (disch := first | decide | omega | (simp (disch := first | decide | omega) only [sv_s, sv_o, ur_s, ur_e, ur_o]; omega)) only [↓reduceIte, iv_add, iv_sub, iv_mul, iv_neg, iv_ltT, iv_ltF, iv_leT, iv_leF, iv_eqT, iv_eqF, iv_div, iv_mod, ↓bnI_s, ↓bnV_s, ↓bnJ_s, ↓bnR_s, rt_e, rt_0, rt_bz, sv_s, sv_o, ur_s, ur_e, ur_o, bz_T, bz_F, nat_eqF, Nat.reduceAdd, ↓gR_435_0 F, ↓lI_436 F, ↓lI_437 F, ↓lI_438 F, ↓lI_439 F, ↓lI_440 F, ↓lI_441 F, ↓lI_443 F, ↓lI_444 F, ↓lI_445 F, ↓lI_446 F, ↓lI_447 F, ↓lI_448 F, ↓lI_449 F, ↓lI_450 F, il_0, il_1, il_4, il_11, il_31, hA, q])
    · obtain ⟨e, e1, e2⟩ := ih (k + 1) (x ||| iv 0) (by omega) (by omega)
      refine ⟨e, ?_, ?_⟩
      · rw [← e1]; (rw [q_Table_whoKeptNone_4]; simp (disch := first | decide | omega | (simp (disch := first | decide | omega) only [sv_s, sv_o, ur_s, ur_e, ur_o]; omega)) only [↓reduceIte, iv_add, iv_sub, iv_mul, iv_neg, iv_ltT, iv_ltF, iv_leT, iv_leF, iv_eqT, iv_eqF, iv_div, iv_mod, ↓bnI_s, ↓bnV_s, ↓bnJ_s, ↓bnR_s, rt_e, rt_0, rt_bz, sv_s, sv_o, ur_s, ur_e, ur_o, bz_T, bz_F, nat_eqF, Nat.reduceAdd, ↓gT_5 T, ↓rT_1 T, il_0, il_1, il_4, il_5, il_7, il_31, hn, y_get (s_12 F) (by decide), rd_in, d1])
      · rw [← e2]; (rw [q_M_calm_4]; simp (disch := first | decide | omega | (simp (disch := first | decide | omega) only [sv_s, sv_o, ur_s, ur_e, ur_o]; omega)) only [↓reduceIte, iv_add, iv_sub, iv_mul, iv_neg, iv_ltT, iv_ltF, iv_leT, iv_leF, iv_eqT, iv_eqF, iv_div, iv_mod, ↓bnI_s, ↓bnV_s, ↓bnJ_s, ↓bnR_s, rt_e, rt_0, rt_bz, sv_s, sv_o, ur_s, ur_e, ur_o, bz_T, bz_F, nat_eqF, Nat.reduceAdd, ↓gR_435_0 F, ↓lI_436 F, ↓lI_437 F, ↓lI_438 F, ↓lI_439 F, ↓lI_440 F, ↓lI_441 F, ↓lI_443 F, ↓lI_444 F, ↓lI_445 F, ↓lI_446 F, ↓lI_447 F, ↓lI_448 F, ↓lI_449 F, ↓lI_450 F, il_0, il_1, il_4, il_11, il_31, hA])
theorem p_calm (F : Fix z) (g : GI TX I0 V z) : Pq V J z (fun h => cA m_X_calm [.ref 8] h) (fun h => cA m_M_calm [.ref 435] h) := by
  obtain ⟨n1, n2, n3, n4⟩ := g.1.1
  have n1 : V 10 5 = V 436 0 := n1
  obtain ⟨e, e1, e2⟩ := y_none_l (J := J) F n1 n2 n4 rfl (V 436 0).toNat 0 (iv 0) (by omega) (by omega)
  have e1 : cA m_Table_whoKeptNone [.ref 10] (em V J z) = some (.int (iv e), em V J z) := by
    rw [← e1, q_Table_whoKeptNone, gd_10 F, il_0]
  exact ⟨e, V, J, V, J, (by simp (disch := first | decide | omega | (simp (disch := first | decide | omega) only [sv_s, sv_o, ur_s, ur_e, ur_o]; omega)) only [↓reduceIte, iv_add, iv_sub, iv_mul, iv_neg, iv_ltT, iv_ltF, iv_leT, iv_leF, iv_eqT, iv_eqF, iv_div, iv_mod, ↓bnI_s, ↓bnV_s, ↓bnJ_s, ↓bnR_s, rt_e, rt_0, rt_bz, sv_s, sv_o, ur_s, ur_e, ur_o, bz_T, bz_F, nat_eqF, Nat.reduceAdd, ↓q_X_calm, ↓gR_8_0 F, ↓gR_9_0 F, ↓gd_8 F, il_0, il_1, il_2, il_10, il_26, e1]), rfl, (by show cA _ _ _ = _; rw [← e2, q_M_calm, gd_435 F, il_0]), rfl⟩
end
