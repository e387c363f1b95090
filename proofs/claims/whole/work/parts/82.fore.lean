/-! what is foretold -/
section
variable {A A' : Int → Int} {V V' V0 J U : Vm} {z : Zz} {t q : Nat} {i : Int} {rv bv : (Int → Int) → Int → Int}
theorem y_fore (F : Fix z) (L : Lc z V0 q i rv bv) {n k : Int} (hn : n ≤ 60) : ∀ (m : Nat) (V : Vm) (A : Int → Int) (j : Int), Kn V 411 A → (0 ≤ k ∧ k < A 0) → (∀ a, 450 < a → V a = V0 a) → V 9 11 = V0 9 11 → V 9 12 = V0 9 12 → A 2 = i → 0 ≤ j → j + m = n → ∃ A' V', rX m_X_foretold m_X_foretold 42 [.ref 8, .int (iv n), .int (iv k), .int (iv j)] [] (em V J z) = some (.int (iv (A' (11 + k))), em V' J z) ∧ frT 411 V V' ∧ rfP A A' ∧ ∀ B U K, RW 0 B U A → U 438 = V0 438 → U 435 23 = 0 → ∃ U' K', rX m_M_foretold m_M_foretold 54 [.ref 435, .int (iv n), .int (iv k), .int (iv j), dd] [] (em U K z) = rX m_M_foretold m_M_foretold 96 [.ref 435, dd, dd, .int (iv (A' (11 + k))), .int (iv 7)] [] (em U' K' z) ∧ RW 0 B U' A' ∧ frM U U' := by
  have S : Tab z 411 := F.tab rfl
  intro m
  induction m with
  | zero =>
    intro V A j h hk l l1 l2 hi j0 hj
    have n2 := h.2.1
    have d1 : V 413 k = A (11 + k) := (h.2.2.2.1 k hk.1 hk.2).1
    refine ⟨A, V, ?_, frT.rfl_, rfP.rfl_, fun B U K hU _ _ => ⟨U, K, ?_, hU, frM.rfl_⟩⟩
    · (rw [q_X_foretold_42]; simp (disch := first | decide | omega | (simp (disch := first | decide | omega) only [sv_s, sv_o, ur_s, ur_e, ur_o]; omega)) only [↓reduceIte, iv_add, iv_sub, iv_mul, iv_neg, iv_ltT, iv_ltF, iv_leT, iv_leF, iv_eqT, iv_eqF, iv_div, iv_mod, ↓bnI_s, ↓bnV_s, ↓bnJ_s, ↓bnR_s, rt_e, rt_0, rt_bz, sv_s, sv_o, ur_s, ur_e, ur_o, bz_T, bz_F, nat_eqF, Nat.reduceAdd, ↓gR_8_2 F, ↓gI_10_7 F, ↓gR_8_0 F, ↓gR_8_3 F, ↓gR_10_1 F, il_0, il_1, il_2, il_3, il_7, il_10, il_42, il_9999, ↓rT_1 S, y_get S.s2 (by decide), rd_in, d1])
    · have uk : U 436 (11 + k) = A (11 + k) := hU.1 _ (by omega)
      (rw [q_M_foretold_54]; simp (disch := first | decide | omega | (simp (disch := first | decide | omega) only [sv_s, sv_o, ur_s, ur_e, ur_o]; omega)) only [↓reduceIte, iv_add, iv_sub, iv_mul, iv_neg, iv_ltT, iv_ltF, iv_leT, iv_leF, iv_eqT, iv_eqF, iv_div, iv_mod, ↓bnI_s, ↓bnV_s, ↓bnJ_s, ↓bnR_s, rt_e, rt_0, rt_bz, sv_s, sv_o, ur_s, ur_e, ur_o, bz_T, bz_F, nat_eqF, Nat.reduceAdd, ↓gR_435_0 F, ↓lI_436 F, ↓lI_437 F, ↓lI_438 F, ↓lI_439 F, ↓lI_440 F, ↓lI_441 F, ↓lI_443 F, ↓lI_444 F, ↓lI_445 F, ↓lI_446 F, ↓lI_447 F, ↓lI_448 F, ↓lI_449 F, ↓lI_450 F, il_0, il_1, il_7, il_11, il_54, il_96, il_9999, uk])
  | succ m ih =>
    intro V A j h hk l l1 l2 hi j0 hj
    have n2 := h.2.1
    have e7 := h.2.2.2.2.2.2.1
    have e71 : V 411 7 = A 7 := e7.1
    have d1 : V 413 k = A (11 + k) := (h.2.2.2.1 k hk.1 hk.2).1
    by_cases q7 : A 7 = 9999
    · refine ⟨A, V, ?_, frT.rfl_, rfP.rfl_, fun B U K hU h438 h23 => ?_⟩
      · (rw [q_X_foretold_42]; simp (disch := first | decide | omega | (simp (disch := first | decide | omega) only [sv_s, sv_o, ur_s, ur_e, ur_o]; omega)) only [↓reduceIte, iv_add, iv_sub, iv_mul, iv_neg, iv_ltT, iv_ltF, iv_leT, iv_leF, iv_eqT, iv_eqF, iv_div, iv_mod, ↓bnI_s, ↓bnV_s, ↓bnJ_s, ↓bnR_s, rt_e, rt_0, rt_bz, sv_s, sv_o, ur_s, ur_e, ur_o, bz_T, bz_F, nat_eqF, Nat.reduceAdd, ↓gR_8_2 F, ↓gI_10_7 F, ↓gR_8_0 F, ↓gR_8_3 F, ↓gR_10_1 F, il_0, il_1, il_2, il_3, il_7, il_10, il_42, il_9999, ↓gT_7 S, ↓rT_1 S, y_get S.s2 (by decide), rd_in, d1, e71, q7])
      · have u7 : U 436 7 = 9999 := (hU.1 7 (by omega)).trans q7
        have uk : U 436 (11 + k) = A (11 + k) := hU.1 _ (by omega)
        have run : ∀ (r : Nat) (j : Int), 0 ≤ j → j + r = n → rX m_M_foretold m_M_foretold 54 [.ref 435, .int (iv n), .int (iv k), .int (iv j), dd] [] (em U K z) = rX m_M_foretold m_M_foretold 96 [.ref 435, dd, dd, .int (iv (A (11 + k))), .int (iv 7)] [] (em U K z) := by
          intro r
          induction r with
          | zero =>
            intro j j0 hj
            (rw [q_M_foretold_54]; simp (disch := first | decide | omega | (simp (disch := first | decide | omega) only [sv_s, sv_o, ur_s, ur_e, ur_o]; omega)) only [↓reduceIte, iv_add, iv_sub, iv_mul, iv_neg, iv_ltT, iv_ltF, iv_leT, iv_leF, iv_eqT, iv_eqF, iv_div, iv_mod, ↓bnI_s, ↓bnV_s, ↓bnJ_s, ↓bnR_s, rt_e, rt_0, rt_bz, sv_s, sv_o, ur_s, ur_e, ur_o, bz_T, bz_F, nat_eqF, Nat.reduceAdd, ↓gR_435_0 F, ↓lI_436 F, ↓lI_437 F, ↓lI_438 F, ↓lI_439 F, ↓lI_440 F, ↓lI_441 F, ↓lI_443 F, ↓lI_444 F, ↓lI_445 F, ↓lI_446 F, ↓lI_447 F, ↓lI_448 F, ↓lI_449 F, ↓lI_450 F, il_0, il_1, il_7, il_11, il_54, il_96, il_9999, uk])
          | succ r ihr =>
            intro j j0 hj
            rw [← ihr (j + 1) (by omega) (by omega)]
            (rw [q_M_foretold_54]; simp (disch := first | decide | omega | (simp (disch := first | decide | omega) only [sv_s, sv_o, ur_s, ur_e, ur_o]; omega)) only [↓reduceIte, iv_add, iv_sub, iv_mul, iv_neg, iv_ltT, iv_ltF, iv_leT, iv_leF, iv_eqT, iv_eqF, iv_div, iv_mod, ↓bnI_s, ↓bnV_s, ↓bnJ_s, ↓bnR_s, rt_e, rt_0, rt_bz, sv_s, sv_o, ur_s, ur_e, ur_o, bz_T, bz_F, nat_eqF, Nat.reduceAdd, ↓gR_435_0 F, ↓lI_436 F, ↓lI_437 F, ↓lI_438 F, ↓lI_439 F, ↓lI_440 F, ↓lI_441 F, ↓lI_443 F, ↓lI_444 F, ↓lI_445 F, ↓lI_446 F, ↓lI_447 F, ↓lI_448 F, ↓lI_449 F, ↓lI_450 F, il_0, il_1, il_7, il_11, il_54, il_96, il_9999, u7])
        exact ⟨U, K, run (m + 1) j j0 (by omega), hU, frM.rfl_⟩
    · obtain ⟨A1, V1, d, d0, p1, p2, p3, p4, p5, p6⟩ := y_pass (J := J) (w := 0) F S (by omega) L.1 (Or.inl rfl) h l hi (by omega)
      have v9 : V1 9 = V 9 := p3.1 9 (by omega) (by omega)
      obtain ⟨A2, V2, b1, b2, b3, b4⟩ := ih V1 A1 (j + 1) p2 (by rw [p4 0 (by omega)]; exact hk) (p3.law (by omega) l) (by rw [v9]; exact l1) (by rw [v9]; exact l2) ((p4 2 (by omega)).trans hi) (by omega) (by omega)
      have lw := L.2.2 V J l1 l2
      refine ⟨A2, V2, ?_, p3.tr b2, p4.tr b3, fun B U K hU h438 h23 => ?_⟩
      · rw [← b1]
        (rw [q_X_foretold_42]; simp (disch := first | decide | omega | (simp (disch := first | decide | omega) only [sv_s, sv_o, ur_s, ur_e, ur_o]; omega)) only [↓reduceIte, iv_add, iv_sub, iv_mul, iv_neg, iv_ltT, iv_ltF, iv_leT, iv_leF, iv_eqT, iv_eqF, iv_div, iv_mod, ↓bnI_s, ↓bnV_s, ↓bnJ_s, ↓bnR_s, rt_e, rt_0, rt_bz, sv_s, sv_o, ur_s, ur_e, ur_o, bz_T, bz_F, nat_eqF, Nat.reduceAdd, ↓gR_8_2 F, ↓gI_10_7 F, ↓gR_8_0 F, ↓gR_8_3 F, ↓gR_10_1 F, il_0, il_1, il_2, il_3, il_7, il_10, il_42, il_9999, ↓gT_7 S, ↓gR_9_0 F, e71, lw, p1])
      · obtain ⟨U1, K1, c1, c2, c3, c4⟩ := p6 B U K hU h438 h23
        obtain ⟨U2, K2, f1, f2, f3⟩ := b4 B U1 K1 c2 ((funext fun k => c3 438 k (Or.inl (scr_F (by omega))) (by decide)).trans h438) ((c3 435 23 (Or.inl (scr_F (by omega))) (by decide)).trans h23)
        have u7 : U 436 7 = A 7 := hU.1 7 (by omega)
        refine ⟨U2, K2, ?_, f2, c3.tr f3⟩
        rw [← f1]
        (rw [q_M_foretold_54]; simp (disch := first | decide | omega | (simp (disch := first | decide | omega) only [sv_s, sv_o, ur_s, ur_e, ur_o]; omega)) only [↓reduceIte, iv_add, iv_sub, iv_mul, iv_neg, iv_ltT, iv_ltF, iv_leT, iv_leF, iv_eqT, iv_eqF, iv_div, iv_mod, ↓bnI_s, ↓bnV_s, ↓bnJ_s, ↓bnR_s, rt_e, rt_0, rt_bz, sv_s, sv_o, ur_s, ur_e, ur_o, bz_T, bz_F, nat_eqF, Nat.reduceAdd, ↓gR_435_0 F, ↓lI_436 F, ↓lI_437 F, ↓lI_438 F, ↓lI_439 F, ↓lI_440 F, ↓lI_441 F, ↓lI_443 F, ↓lI_444 F, ↓lI_445 F, ↓lI_446 F, ↓lI_447 F, ↓lI_448 F, ↓lI_449 F, ↓lI_450 F, il_0, il_1, il_7, il_11, il_54, il_96, il_9999, u7, c1])
/-- laid aside -/
theorem y_fo23 (F : Fix z) {n k : Int} : ∀ (m : Nat) (V : Vm) (j : Int), 7 ≤ j → j + m = 23 → ∃ V', rX m_M_foretold m_M_foretold 23 [.ref 435, .int (iv n), .int (iv k), .int (iv j), dd] [] (em V J z) = rX m_M_foretold m_M_foretold 54 [.ref 435, .int (iv n), .int (iv k), .int (iv 0), dd] [] (em (sv V' 435 23 0) J z) ∧ (∀ a, a ≠ 444 → V' a = V a) ∧ ∀ x, V' 444 x = if j ≤ x ∧ x < 23 then V 436 x else V 444 x := by
  intro m
  induction m with
  | zero =>
    intro V j j0 hj
    exact ⟨V, (by (rw [q_M_foretold_23]; simp (disch := first | decide | omega | (simp (disch := first | decide | omega) only [sv_s, sv_o, ur_s, ur_e, ur_o]; omega)) only [↓reduceIte, iv_add, iv_sub, iv_mul, iv_neg, iv_ltT, iv_ltF, iv_leT, iv_leF, iv_eqT, iv_eqF, iv_div, iv_mod, ↓bnI_s, ↓bnV_s, ↓bnJ_s, ↓bnR_s, rt_e, rt_0, rt_bz, sv_s, sv_o, ur_s, ur_e, ur_o, bz_T, bz_F, nat_eqF, Nat.reduceAdd, ↓gR_435_25 F, ↓gR_435_0 F, ↓pI_435_23 F, ↓lI_436 F, ↓lI_437 F, ↓lI_438 F, ↓lI_439 F, ↓lI_440 F, ↓lI_441 F, ↓lI_443 F, ↓lI_444 F, ↓lI_445 F, ↓lI_446 F, ↓lI_447 F, ↓lI_448 F, ↓lI_449 F, ↓lI_450 F, ↓sI_436 F, ↓sI_437 F, ↓sI_438 F, ↓sI_439 F, ↓sI_440 F, ↓sI_441 F, ↓sI_443 F, ↓sI_444 F, ↓sI_445 F, ↓sI_446 F, ↓sI_447 F, ↓sI_448 F, ↓sI_449 F, ↓sI_450 F, il_0, il_1, il_11, il_23, il_25, il_54])), fun _ _ => rfl, fun x => by rw [if_neg (by omega)]⟩
  | succ m ih =>
    intro V j j0 hj
    have lp : rX m_M_foretold m_M_foretold 23 [.ref 435, .int (iv n), .int (iv k), .int (iv j), dd] [] (em V J z) = rX m_M_foretold m_M_foretold 23 [.ref 435, .int (iv n), .int (iv k), .int (iv (j + 1)), dd] [] (em (sv V 444 j (V 436 j)) J z) := by
      (rw [q_M_foretold_23]; simp (disch := first | decide | omega | (simp (disch := first | decide | omega) only [sv_s, sv_o, ur_s, ur_e, ur_o]; omega)) only [↓reduceIte, iv_add, iv_sub, iv_mul, iv_neg, iv_ltT, iv_ltF, iv_leT, iv_leF, iv_eqT, iv_eqF, iv_div, iv_mod, ↓bnI_s, ↓bnV_s, ↓bnJ_s, ↓bnR_s, rt_e, rt_0, rt_bz, sv_s, sv_o, ur_s, ur_e, ur_o, bz_T, bz_F, nat_eqF, Nat.reduceAdd, ↓gR_435_25 F, ↓gR_435_0 F, ↓pI_435_23 F, ↓lI_436 F, ↓lI_437 F, ↓lI_438 F, ↓lI_439 F, ↓lI_440 F, ↓lI_441 F, ↓lI_443 F, ↓lI_444 F, ↓lI_445 F, ↓lI_446 F, ↓lI_447 F, ↓lI_448 F, ↓lI_449 F, ↓lI_450 F, ↓sI_436 F, ↓sI_437 F, ↓sI_438 F, ↓sI_439 F, ↓sI_440 F, ↓sI_441 F, ↓sI_443 F, ↓sI_444 F, ↓sI_445 F, ↓sI_446 F, ↓sI_447 F, ↓sI_448 F, ↓sI_449 F, ↓sI_450 F, il_0, il_1, il_11, il_23, il_25, il_54])
    obtain ⟨V', e1, e2, e3⟩ := ih (sv V 444 j (V 436 j)) (j + 1) (by omega) (by omega)
    refine ⟨V', lp.trans e1, fun a ha => by rw [e2 a ha]; simp (disch := first | decide | omega | (simp (disch := first | decide | omega) only [sv_s, sv_o, ur_s, ur_e, ur_o]; omega)) only [↓reduceIte, iv_add, iv_sub, iv_mul, iv_neg, iv_ltT, iv_ltF, iv_leT, iv_leF, iv_eqT, iv_eqF, iv_div, iv_mod, ↓bnI_s, ↓bnV_s, ↓bnJ_s, ↓bnR_s, rt_e, rt_0, rt_bz, sv_s, sv_o, ur_s, ur_e, ur_o, bz_T, bz_F, nat_eqF, Nat.reduceAdd], fun x => ?_⟩
    rw [e3 x]
    by_cases q : x = j
    · subst q
      rw [if_neg (by omega), if_pos (by omega)]; simp (disch := first | decide | omega | (simp (disch := first | decide | omega) only [sv_s, sv_o, ur_s, ur_e, ur_o]; omega)) only [↓reduceIte, iv_add, iv_sub, iv_mul, iv_neg, iv_ltT, iv_ltF, iv_leT, iv_leF, iv_eqT, iv_eqF, iv_div, iv_mod, ↓bnI_s, ↓bnV_s, ↓bnJ_s, ↓bnR_s, rt_e, rt_0, rt_bz, sv_s, sv_o, ur_s, ur_e, ur_o, bz_T, bz_F, nat_eqF, Nat.reduceAdd]
    · by_cases w : j + 1 ≤ x ∧ x < 23
      · rw [if_pos w, if_pos (by omega)]; simp (disch := first | decide | omega | (simp (disch := first | decide | omega) only [sv_s, sv_o, ur_s, ur_e, ur_o]; omega)) only [↓reduceIte, iv_add, iv_sub, iv_mul, iv_neg, iv_ltT, iv_ltF, iv_leT, iv_leF, iv_eqT, iv_eqF, iv_div, iv_mod, ↓bnI_s, ↓bnV_s, ↓bnJ_s, ↓bnR_s, rt_e, rt_0, rt_bz, sv_s, sv_o, ur_s, ur_e, ur_o, bz_T, bz_F, nat_eqF, Nat.reduceAdd]
      · rw [if_neg w, if_neg (by omega)]; simp (disch := first | decide | omega | (simp (disch := first | decide | omega) only [sv_s, sv_o, ur_s, ur_e, ur_o]; omega)) only [↓reduceIte, iv_add, iv_sub, iv_mul, iv_neg, iv_ltT, iv_ltF, iv_leT, iv_leF, iv_eqT, iv_eqF, iv_div, iv_mod, ↓bnI_s, ↓bnV_s, ↓bnJ_s, ↓bnR_s, rt_e, rt_0, rt_bz, sv_s, sv_o, ur_s, ur_e, ur_o, bz_T, bz_F, nat_eqF, Nat.reduceAdd]
/-- put back -/
theorem y_fo96 (F : Fix z) {v : Int} : ∀ (m : Nat) (V : Vm) (j : Int), 7 ≤ j → j + m = 23 → ∃ V', rX m_M_foretold m_M_foretold 96 [.ref 435, dd, dd, .int (iv v), .int (iv j)] [] (em V J z) = some (.int (iv v), em (sv V' 435 23 1) J z) ∧ (∀ a, a ≠ 436 → V' a = V a) ∧ ∀ x, V' 436 x = if j ≤ x ∧ x < 23 then V 444 x else V 436 x := by
  intro m
  induction m with
  | zero =>
    intro V j j0 hj
    exact ⟨V, (by (rw [q_M_foretold_96]; simp (disch := first | decide | omega | (simp (disch := first | decide | omega) only [sv_s, sv_o, ur_s, ur_e, ur_o]; omega)) only [↓reduceIte, iv_add, iv_sub, iv_mul, iv_neg, iv_ltT, iv_ltF, iv_leT, iv_leF, iv_eqT, iv_eqF, iv_div, iv_mod, ↓bnI_s, ↓bnV_s, ↓bnJ_s, ↓bnR_s, rt_e, rt_0, rt_bz, sv_s, sv_o, ur_s, ur_e, ur_o, bz_T, bz_F, nat_eqF, Nat.reduceAdd, ↓gR_435_0 F, ↓gR_435_25 F, ↓pI_435_23 F, ↓lI_436 F, ↓lI_437 F, ↓lI_438 F, ↓lI_439 F, ↓lI_440 F, ↓lI_441 F, ↓lI_443 F, ↓lI_444 F, ↓lI_445 F, ↓lI_446 F, ↓lI_447 F, ↓lI_448 F, ↓lI_449 F, ↓lI_450 F, ↓sI_436 F, ↓sI_437 F, ↓sI_438 F, ↓sI_439 F, ↓sI_440 F, ↓sI_441 F, ↓sI_443 F, ↓sI_444 F, ↓sI_445 F, ↓sI_446 F, ↓sI_447 F, ↓sI_448 F, ↓sI_449 F, ↓sI_450 F, il_0, il_1, il_11, il_23, il_25, il_96])), fun _ _ => rfl, fun x => by rw [if_neg (by omega)]⟩
  | succ m ih =>
    intro V j j0 hj
    have lp : rX m_M_foretold m_M_foretold 96 [.ref 435, dd, dd, .int (iv v), .int (iv j)] [] (em V J z) = rX m_M_foretold m_M_foretold 96 [.ref 435, dd, dd, .int (iv v), .int (iv (j + 1))] [] (em (sv V 436 j (V 444 j)) J z) := by
      (rw [q_M_foretold_96]; simp (disch := first | decide | omega | (simp (disch := first | decide | omega) only [sv_s, sv_o, ur_s, ur_e, ur_o]; omega)) only [↓reduceIte, iv_add, iv_sub, iv_mul, iv_neg, iv_ltT, iv_ltF, iv_leT, iv_leF, iv_eqT, iv_eqF, iv_div, iv_mod, ↓bnI_s, ↓bnV_s, ↓bnJ_s, ↓bnR_s, rt_e, rt_0, rt_bz, sv_s, sv_o, ur_s, ur_e, ur_o, bz_T, bz_F, nat_eqF, Nat.reduceAdd, ↓gR_435_0 F, ↓gR_435_25 F, ↓pI_435_23 F, ↓lI_436 F, ↓lI_437 F, ↓lI_438 F, ↓lI_439 F, ↓lI_440 F, ↓lI_441 F, ↓lI_443 F, ↓lI_444 F, ↓lI_445 F, ↓lI_446 F, ↓lI_447 F, ↓lI_448 F, ↓lI_449 F, ↓lI_450 F, ↓sI_436 F, ↓sI_437 F, ↓sI_438 F, ↓sI_439 F, ↓sI_440 F, ↓sI_441 F, ↓sI_443 F, ↓sI_444 F, ↓sI_445 F, ↓sI_446 F, ↓sI_447 F, ↓sI_448 F, ↓sI_449 F, ↓sI_450 F, il_0, il_1, il_11, il_23, il_25, il_96])
    obtain ⟨V', e1, e2, e3⟩ := ih (sv V 436 j (V 444 j)) (j + 1) (by omega) (by omega)
    refine ⟨V', lp.trans e1, fun a ha => by rw [e2 a ha]; simp (disch := first | decide | omega | (simp (disch := first | decide | omega) only [sv_s, sv_o, ur_s, ur_e, ur_o]; omega)) only [↓reduceIte, iv_add, iv_sub, iv_mul, iv_neg, iv_ltT, iv_ltF, iv_leT, iv_leF, iv_eqT, iv_eqF, iv_div, iv_mod, ↓bnI_s, ↓bnV_s, ↓bnJ_s, ↓bnR_s, rt_e, rt_0, rt_bz, sv_s, sv_o, ur_s, ur_e, ur_o, bz_T, bz_F, nat_eqF, Nat.reduceAdd], fun x => ?_⟩
    rw [e3 x]
    by_cases q : x = j
    · subst q
      rw [if_neg (by omega), if_pos (by omega)]; simp (disch := first | decide | omega | (simp (disch := first | decide | omega) only [sv_s, sv_o, ur_s, ur_e, ur_o]; omega)) only [↓reduceIte, iv_add, iv_sub, iv_mul, iv_neg, iv_ltT, iv_ltF, iv_leT, iv_leF, iv_eqT, iv_eqF, iv_div, iv_mod, ↓bnI_s, ↓bnV_s, ↓bnJ_s, ↓bnR_s, rt_e, rt_0, rt_bz, sv_s, sv_o, ur_s, ur_e, ur_o, bz_T, bz_F, nat_eqF, Nat.reduceAdd]
    · by_cases w : j + 1 ≤ x ∧ x < 23
      · rw [if_pos w, if_pos (by omega)]; simp (disch := first | decide | omega | (simp (disch := first | decide | omega) only [sv_s, sv_o, ur_s, ur_e, ur_o]; omega)) only [↓reduceIte, iv_add, iv_sub, iv_mul, iv_neg, iv_ltT, iv_ltF, iv_leT, iv_leF, iv_eqT, iv_eqF, iv_div, iv_mod, ↓bnI_s, ↓bnV_s, ↓bnJ_s, ↓bnR_s, rt_e, rt_0, rt_bz, sv_s, sv_o, ur_s, ur_e, ur_o, bz_T, bz_F, nat_eqF, Nat.reduceAdd]
      · rw [if_neg w, if_neg (by omega)]; simp (disch := first | decide | omega | (simp (disch := first | decide | omega) only [sv_s, sv_o, ur_s, ur_e, ur_o]; omega)) only [↓reduceIte, iv_add, iv_sub, iv_mul, iv_neg, iv_ltT, iv_ltF, iv_leT, iv_leF, iv_eqT, iv_eqF, iv_div, iv_mod, ↓bnI_s, ↓bnV_s, ↓bnJ_s, ↓bnR_s, rt_e, rt_0, rt_bz, sv_s, sv_o, ur_s, ur_e, ur_o, bz_T, bz_F, nat_eqF, Nat.reduceAdd]
theorem p_foretold (F : Fix z) (TX : Vm → Zz → Nat → Int → Prop) {I0 : Nat → Nat → Int32} (g : GI TX I0 V z) (L : Lc z V q i rv bv) {n k : Int} (hn : (-2147483648 ≤ n ∧ n < 2147483648)) (hk : (-2147483648 ≤ k ∧ k < 2147483648)) : Pq V J z (fun h => cA m_X_foretold [.ref 8, .int (iv n), .int (iv k)] h) (fun h => cA m_M_foretold [.ref 435, .int (iv n), .int (iv k)] h) := by
  have T := T10 F
  have S : Tab z 411 := F.tab rfl
  have h := g.1.1
  have n1 : V 10 5 = V 436 0 := h.1
  have n2 := h.2.1
  by_cases h1 : 1 ≤ n ∧ n ≤ 60
  · by_cases h2 : 0 ≤ k ∧ k < V 436 0
    · obtain ⟨V1, e1, b1, b2, b3, b4⟩ := y_become (V := V) (J := J) S T (by omega)
      have lw : ∀ a, a < 411 ∨ 417 ≤ a → V1 a = V a := b1
      have h411 : Kn V1 411 (V 436) := by
        refine ⟨b2.1.trans n1, n2, fun j j0 j1 => ?_, ?_⟩
        · have q := (b3 j j0 (by omega)).1
          rw [q]
          exact h.2.2.1 j j0 j1
        · exact Tr_m n2.2 ⟨b2.2.1, b2.2.2.1, b2.2.2.2.1, b2.2.2.2.2⟩ (fun j j0 j1 => ⟨(b3 j j0 j1).2.1, (b3 j j0 j1).2.2.1, (b3 j j0 j1).2.2.2⟩) b4 (fun _ _ _ => rfl) (fun _ _ _ => rfl) h.2.2.2
      obtain ⟨A2, V2, c1, c2, c3, c4⟩ := y_fore (J := J) F L (n := n) (k := k) h1.2 n.toNat V1 (V 436) 0 h411 h2 (fun a ha => lw a (by omega)) (by rw [lw 9 (by omega)]) (by rw [lw 9 (by omega)]) L.2.1 (by omega) (by omega)
      have v2 : ∀ a, a < 411 ∨ 419 ≤ a → V2 a = V a := fun a ha => (c2.1 a (by omega) (by omega)).trans (lw a (by omega))
      have co : core V2 = core V := core_ext fun a j sa => by
        by_cases q : a < 411 ∨ 419 ≤ a
        · rw [v2 a q]
        · exact absurd sa (by rw [scr_T (by omega)]; decide)
      obtain ⟨U1, d1, d2, d3⟩ := y_fo23 (J := J) F (n := n) (k := k) 16 V2 7 (by omega) (by omega)
      have u436 : U1 436 = V 436 := (d2 436 (by decide)).trans (v2 436 (by omega))
      obtain ⟨U2, K2, f1, f2, f3⟩ := c4 (V 436) (sv U1 435 23 0) J ⟨fun x _ => by simp (disch := first | decide | omega | (simp (disch := first | decide | omega) only [sv_s, sv_o, ur_s, ur_e, ur_o]; omega)) only [↓reduceIte, iv_add, iv_sub, iv_mul, iv_neg, iv_ltT, iv_ltF, iv_leT, iv_leF, iv_eqT, iv_eqF, iv_div, iv_mod, ↓bnI_s, ↓bnV_s, ↓bnJ_s, ↓bnR_s, rt_e, rt_0, rt_bz, sv_s, sv_o, ur_s, ur_e, ur_o, bz_T, bz_F, nat_eqF, Nat.reduceAdd, u436], fun _ x _ _ => by simp (disch := first | decide | omega | (simp (disch := first | decide | omega) only [sv_s, sv_o, ur_s, ur_e, ur_o]; omega)) only [↓reduceIte, iv_add, iv_sub, iv_mul, iv_neg, iv_ltT, iv_ltF, iv_leT, iv_leF, iv_eqT, iv_eqF, iv_div, iv_mod, ↓bnI_s, ↓bnV_s, ↓bnJ_s, ↓bnR_s, rt_e, rt_0, rt_bz, sv_s, sv_o, ur_s, ur_e, ur_o, bz_T, bz_F, nat_eqF, Nat.reduceAdd, u436]⟩ (by simp (disch := first | decide | omega | (simp (disch := first | decide | omega) only [sv_s, sv_o, ur_s, ur_e, ur_o]; omega)) only [↓reduceIte, iv_add, iv_sub, iv_mul, iv_neg, iv_ltT, iv_ltF, iv_leT, iv_leF, iv_eqT, iv_eqF, iv_div, iv_mod, ↓bnI_s, ↓bnV_s, ↓bnJ_s, ↓bnR_s, rt_e, rt_0, rt_bz, sv_s, sv_o, ur_s, ur_e, ur_o, bz_T, bz_F, nat_eqF, Nat.reduceAdd, d2 438 (by decide), v2 438 (by omega)]) (by simp (disch := first | decide | omega | (simp (disch := first | decide | omega) only [sv_s, sv_o, ur_s, ur_e, ur_o]; omega)) only [↓reduceIte, iv_add, iv_sub, iv_mul, iv_neg, iv_ltT, iv_ltF, iv_leT, iv_leF, iv_eqT, iv_eqF, iv_div, iv_mod, ↓bnI_s, ↓bnV_s, ↓bnJ_s, ↓bnR_s, rt_e, rt_0, rt_bz, sv_s, sv_o, ur_s, ur_e, ur_o, bz_T, bz_F, nat_eqF, Nat.reduceAdd])
      obtain ⟨U3, g1, g2, g3⟩ := y_fo96 (J := K2) F (v := A2 (11 + k)) 16 U2 7 (by omega) (by omega)
      have u444 : U2 444 = U1 444 := by
        rw [funext fun x => f3 444 x (Or.inr rfl) (by decide)]; simp (disch := first | decide | omega | (simp (disch := first | decide | omega) only [sv_s, sv_o, ur_s, ur_e, ur_o]; omega)) only [↓reduceIte, iv_add, iv_sub, iv_mul, iv_neg, iv_ltT, iv_ltF, iv_leT, iv_leF, iv_eqT, iv_eqF, iv_div, iv_mod, ↓bnI_s, ↓bnV_s, ↓bnJ_s, ↓bnR_s, rt_e, rt_0, rt_bz, sv_s, sv_o, ur_s, ur_e, ur_o, bz_T, bz_F, nat_eqF, Nat.reduceAdd]
      have u3 : U3 436 = V 436 := funext fun x => by
        rw [g3 x]
        by_cases q : 7 ≤ x ∧ x < 23
        · rw [if_pos q, u444, d3 x, if_pos q, v2 436 (by omega)]
        · rw [if_neg q]
          by_cases q2 : 1425 ≤ x ∧ x < 1450
          · exact f2.2 rfl x q2.1 q2.2
          · rw [f2.1 x (by omega)]
            exact c3 x (by omega)
      refine ⟨A2 (11 + k), V2, J, sv U3 435 23 1, K2, ?_, co, ?_, ?_⟩
      · rw [← c1]
        simp (disch := first | decide | omega | (simp (disch := first | decide | omega) only [sv_s, sv_o, ur_s, ur_e, ur_o]; omega)) only [↓reduceIte, iv_add, iv_sub, iv_mul, iv_neg, iv_ltT, iv_ltF, iv_leT, iv_leF, iv_eqT, iv_eqF, iv_div, iv_mod, ↓bnI_s, ↓bnV_s, ↓bnJ_s, ↓bnR_s, rt_e, rt_0, rt_bz, sv_s, sv_o, ur_s, ur_e, ur_o, bz_T, bz_F, nat_eqF, Nat.reduceAdd, ↓q_X_foretold, ↓gR_8_0 F, ↓gR_9_0 F, ↓gR_8_2 F, ↓gd_8 F, il_0, il_1, il_2, il_10, il_26, il_42, il_60, y_within, y_has T, n1, bz_T h2, ↓gR_9_0 F, e1]
      · have q : cA m_M_isKin [.ref 435, .int (iv k)] (em V2 J z) = some (.int (iv 1), em V2 J z) := by
          rw [y_isKin F hk (by rw [v2 436 (by omega)]; exact n2), bz_T (by rw [v2 436 (by omega)]; omega)]
        rw [← g1, ← f1, ← d1]
        simp (disch := first | decide | omega | (simp (disch := first | decide | omega) only [sv_s, sv_o, ur_s, ur_e, ur_o]; omega)) only [↓reduceIte, iv_add, iv_sub, iv_mul, iv_neg, iv_ltT, iv_ltF, iv_leT, iv_leF, iv_eqT, iv_eqF, iv_div, iv_mod, ↓bnI_s, ↓bnV_s, ↓bnJ_s, ↓bnR_s, rt_e, rt_0, rt_bz, sv_s, sv_o, ur_s, ur_e, ur_o, bz_T, bz_F, nat_eqF, Nat.reduceAdd, ↓q_M_foretold, ↓gd_435 F, il_0, il_1, il_7, il_23, il_27, il_60, y_isIn, q]
      · refine core_ext fun a j sa => ?_
        by_cases q6 : a = 436
        · subst q6
          simp (disch := first | decide | omega | (simp (disch := first | decide | omega) only [sv_s, sv_o, ur_s, ur_e, ur_o]; omega)) only [↓reduceIte, iv_add, iv_sub, iv_mul, iv_neg, iv_ltT, iv_ltF, iv_leT, iv_leF, iv_eqT, iv_eqF, iv_div, iv_mod, ↓bnI_s, ↓bnV_s, ↓bnJ_s, ↓bnR_s, rt_e, rt_0, rt_bz, sv_s, sv_o, ur_s, ur_e, ur_o, bz_T, bz_F, nat_eqF, Nat.reduceAdd, u3, v2 436 (by omega)]
        · by_cases q5 : a = 435
          · subst q5
            by_cases qj : j = 23
            · subst qj
              simp (disch := first | decide | omega | (simp (disch := first | decide | omega) only [sv_s, sv_o, ur_s, ur_e, ur_o]; omega)) only [↓reduceIte, iv_add, iv_sub, iv_mul, iv_neg, iv_ltT, iv_ltF, iv_leT, iv_leF, iv_eqT, iv_eqF, iv_div, iv_mod, ↓bnI_s, ↓bnV_s, ↓bnJ_s, ↓bnR_s, rt_e, rt_0, rt_bz, sv_s, sv_o, ur_s, ur_e, ur_o, bz_T, bz_F, nat_eqF, Nat.reduceAdd, v2 435 (by omega)]
              exact g.2.2.2.2.2.2.1.symm
            · simp (disch := first | decide | omega | (simp (disch := first | decide | omega) only [sv_s, sv_o, ur_s, ur_e, ur_o]; omega)) only [↓reduceIte, iv_add, iv_sub, iv_mul, iv_neg, iv_ltT, iv_ltF, iv_leT, iv_leF, iv_eqT, iv_eqF, iv_div, iv_mod, ↓bnI_s, ↓bnV_s, ↓bnJ_s, ↓bnR_s, rt_e, rt_0, rt_bz, sv_s, sv_o, ur_s, ur_e, ur_o, bz_T, bz_F, nat_eqF, Nat.reduceAdd, g2 435 (by decide)]
              rw [f3 435 j (Or.inl sa) (by decide)]
              simp (disch := first | decide | omega | (simp (disch := first | decide | omega) only [sv_s, sv_o, ur_s, ur_e, ur_o]; omega)) only [↓reduceIte, iv_add, iv_sub, iv_mul, iv_neg, iv_ltT, iv_ltF, iv_leT, iv_leF, iv_eqT, iv_eqF, iv_div, iv_mod, ↓bnI_s, ↓bnV_s, ↓bnJ_s, ↓bnR_s, rt_e, rt_0, rt_bz, sv_s, sv_o, ur_s, ur_e, ur_o, bz_T, bz_F, nat_eqF, Nat.reduceAdd, d2 435 (by decide)]
              exact core_at co sa
          · have q4 : a ≠ 444 := fun e => by
              subst e
              exact absurd sa (by rw [scr_T (by omega)]; decide)
            simp (disch := first | decide | omega | (simp (disch := first | decide | omega) only [sv_s, sv_o, ur_s, ur_e, ur_o]; omega)) only [↓reduceIte, iv_add, iv_sub, iv_mul, iv_neg, iv_ltT, iv_ltF, iv_leT, iv_leF, iv_eqT, iv_eqF, iv_div, iv_mod, ↓bnI_s, ↓bnV_s, ↓bnJ_s, ↓bnR_s, rt_e, rt_0, rt_bz, sv_s, sv_o, ur_s, ur_e, ur_o, bz_T, bz_F, nat_eqF, Nat.reduceAdd, g2 a q6]
            rw [f3 a j (Or.inl sa) q6]
            simp (disch := first | decide | omega | (simp (disch := first | decide | omega) only [sv_s, sv_o, ur_s, ur_e, ur_o]; omega)) only [↓reduceIte, iv_add, iv_sub, iv_mul, iv_neg, iv_ltT, iv_ltF, iv_leT, iv_leF, iv_eqT, iv_eqF, iv_div, iv_mod, ↓bnI_s, ↓bnV_s, ↓bnJ_s, ↓bnR_s, rt_e, rt_0, rt_bz, sv_s, sv_o, ur_s, ur_e, ur_o, bz_T, bz_F, nat_eqF, Nat.reduceAdd, d2 a q4]
            exact core_at co sa
    · refine ⟨-1, V, J, V, J, ?_, rfl, ?_, rfl⟩
      · simp (disch := first | decide | omega | (simp (disch := first | decide | omega) only [sv_s, sv_o, ur_s, ur_e, ur_o]; omega)) only [↓reduceIte, iv_add, iv_sub, iv_mul, iv_neg, iv_ltT, iv_ltF, iv_leT, iv_leF, iv_eqT, iv_eqF, iv_div, iv_mod, ↓bnI_s, ↓bnV_s, ↓bnJ_s, ↓bnR_s, rt_e, rt_0, rt_bz, sv_s, sv_o, ur_s, ur_e, ur_o, bz_T, bz_F, nat_eqF, Nat.reduceAdd, ↓q_X_foretold, ↓gR_8_0 F, ↓gR_9_0 F, ↓gR_8_2 F, ↓gd_8 F, il_0, il_1, il_2, il_10, il_26, il_42, il_60, y_within, y_has T, n1, bz_F h2]
      · have q : cA m_M_isKin [.ref 435, .int (iv k)] (em V J z) = some (.int (iv 0), em V J z) := by
          rw [y_isKin F hk n2, bz_F (by omega)]
        simp (disch := first | decide | omega | (simp (disch := first | decide | omega) only [sv_s, sv_o, ur_s, ur_e, ur_o]; omega)) only [↓reduceIte, iv_add, iv_sub, iv_mul, iv_neg, iv_ltT, iv_ltF, iv_leT, iv_leF, iv_eqT, iv_eqF, iv_div, iv_mod, ↓bnI_s, ↓bnV_s, ↓bnJ_s, ↓bnR_s, rt_e, rt_0, rt_bz, sv_s, sv_o, ur_s, ur_e, ur_o, bz_T, bz_F, nat_eqF, Nat.reduceAdd, ↓q_M_foretold, ↓gd_435 F, il_0, il_1, il_7, il_23, il_27, il_60, y_isIn, q]
  · have b1 : bz (1 ≤ n ∧ n ≤ 60) = 0 := bz_F h1
    refine ⟨-1, V, J, V, J, ?_, rfl, ?_, rfl⟩
    · simp (disch := first | decide | omega | (simp (disch := first | decide | omega) only [sv_s, sv_o, ur_s, ur_e, ur_o]; omega)) only [↓reduceIte, iv_add, iv_sub, iv_mul, iv_neg, iv_ltT, iv_ltF, iv_leT, iv_leF, iv_eqT, iv_eqF, iv_div, iv_mod, ↓bnI_s, ↓bnV_s, ↓bnJ_s, ↓bnR_s, rt_e, rt_0, rt_bz, sv_s, sv_o, ur_s, ur_e, ur_o, bz_T, bz_F, nat_eqF, Nat.reduceAdd, ↓q_X_foretold, ↓gR_8_0 F, ↓gR_9_0 F, ↓gR_8_2 F, ↓gd_8 F, il_0, il_1, il_2, il_10, il_26, il_42, il_60, y_within, b1]
    · simp (disch := first | decide | omega | (simp (disch := first | decide | omega) only [sv_s, sv_o, ur_s, ur_e, ur_o]; omega)) only [↓reduceIte, iv_add, iv_sub, iv_mul, iv_neg, iv_ltT, iv_ltF, iv_leT, iv_leF, iv_eqT, iv_eqF, iv_div, iv_mod, ↓bnI_s, ↓bnV_s, ↓bnJ_s, ↓bnR_s, rt_e, rt_0, rt_bz, sv_s, sv_o, ur_s, ur_e, ur_o, bz_T, bz_F, nat_eqF, Nat.reduceAdd, ↓q_M_foretold, ↓gd_435 F, il_0, il_1, il_7, il_23, il_27, il_60, y_isIn, b1]
end
