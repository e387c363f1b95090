/-! one of the kin told, apart -/
section
variable {V0 : Vm} {z : Zz}
theorem d_kin (F : Fix z) {a b : Int} (ha : (-2147483648 ≤ a ∧ a < 2147483648)) (hb : (-2147483648 ≤ b ∧ b < 2147483648)) : Dd z V0 (fun h => cA m_X_kin [.ref 8, .int (iv a), .int (iv b)] h) (fun h => cA m_M_kin [.ref 435, .int (iv a), .int (iv b)] h) := by
  intro V J A m
  have T := T10 F
  have ks := m.2.1
  obtain ⟨n1, n2, n3, n4⟩ := ks.1
  have n1 : V 10 5 = A 0 := n1
  by_cases h1 : 0 ≤ a ∧ a ≤ 9
  · by_cases h2 : 0 ≤ b ∧ b ≤ 99
    · by_cases h3 : A 0 = 6
      · refine ⟨-1, A, V, J, ?_, m, by omega, fun U K hU _ _ => ⟨U, K, ?_, hU, frM.rfl_⟩⟩
        · simp (disch := first | decide | omega | (simp (disch := first | decide | omega) only [sv_s, sv_o, ur_s, ur_e, ur_o]; omega)) only [↓reduceIte, iv_add, iv_sub, iv_mul, iv_neg, iv_ltT, iv_ltF, iv_leT, iv_leF, iv_eqT, iv_eqF, iv_div, iv_mod, ↓bnI_s, ↓bnV_s, ↓bnJ_s, ↓bnR_s, rt_e, rt_0, rt_bz, sv_s, sv_o, ur_s, ur_e, ur_o, bz_T, bz_F, nat_eqF, Nat.reduceAdd, ↓q_X_kin, ↓gR_8_0 F, ↓gR_9_0 F, ↓gd_8 F, il_0, il_1, il_2, il_9, il_10, il_26, il_99, y_within, y_seat_no F]
        · have u0 : U 436 0 = 6 := by rw [hU]; exact h3
          simp (disch := first | decide | omega | (simp (disch := first | decide | omega) only [sv_s, sv_o, ur_s, ur_e, ur_o]; omega)) only [↓reduceIte, iv_add, iv_sub, iv_mul, iv_neg, iv_ltT, iv_ltF, iv_leT, iv_leF, iv_eqT, iv_eqF, iv_div, iv_mod, ↓bnI_s, ↓bnV_s, ↓bnJ_s, ↓bnR_s, rt_e, rt_0, rt_bz, sv_s, sv_o, ur_s, ur_e, ur_o, bz_T, bz_F, nat_eqF, Nat.reduceAdd, ↓q_M_kin, ↓gR_435_0 F, ↓lI_436 F, ↓lI_437 F, ↓lI_438 F, ↓lI_439 F, ↓lI_440 F, ↓lI_441 F, ↓lI_443 F, ↓lI_444 F, ↓lI_445 F, ↓lI_446 F, ↓lI_447 F, ↓lI_448 F, ↓lI_449 F, ↓lI_450 F, ↓sI_436 F, ↓sI_437 F, ↓sI_438 F, ↓sI_439 F, ↓sI_440 F, ↓sI_441 F, ↓sI_443 F, ↓sI_444 F, ↓sI_445 F, ↓sI_446 F, ↓sI_447 F, ↓sI_448 F, ↓sI_449 F, ↓sI_450 F, ↓gd_435 F, il_0, il_1, il_6, il_9, il_11, il_23, il_27, il_29, il_99, y_isIn, u0]
      · generalize hn : A 0 = n at *
        have eX : cA m_X_kin [.ref 8, .int (iv a), .int (iv b)] (em V J z) = some (.int (iv n), em (sv (sv (sv (sv (sv V 11 n a) 12 n b) 13 n n) 14 n n) 10 5 (n + 1)) J z) := by
          have s := y_seat (V := V) (J := J) F (a := a) (b := b) (by omega)
          rw [n1] at s
          simp (disch := first | decide | omega | (simp (disch := first | decide | omega) only [sv_s, sv_o, ur_s, ur_e, ur_o]; omega)) only [↓reduceIte, iv_add, iv_sub, iv_mul, iv_neg, iv_ltT, iv_ltF, iv_leT, iv_leF, iv_eqT, iv_eqF, iv_div, iv_mod, ↓bnI_s, ↓bnV_s, ↓bnJ_s, ↓bnR_s, rt_e, rt_0, rt_bz, sv_s, sv_o, ur_s, ur_e, ur_o, bz_T, bz_F, nat_eqF, Nat.reduceAdd, ↓q_X_kin, ↓gR_8_0 F, ↓gR_9_0 F, ↓gd_8 F, il_0, il_1, il_2, il_9, il_10, il_26, il_99, y_within, s]
        have W : ∃ W, W = sv (sv (sv (sv (sv V 11 n a) 12 n b) 13 n n) 14 n n) 10 5 (n + 1) := ⟨_, rfl⟩
        obtain ⟨W, hW⟩ := W
        rw [← hW] at eX
        have X : ∃ X, X = ur (ur (ur (ur (ur A (23 + n) a) (29 + n) b) (11 + n) b) (17 + n) n) 0 (n + 1) := ⟨_, rfl⟩
        obtain ⟨X, hX⟩ := X
        have x0 : X 0 = n + 1 := by rw [hX]; simp (disch := first | decide | omega | (simp (disch := first | decide | omega) only [sv_s, sv_o, ur_s, ur_e, ur_o]; omega)) only [↓reduceIte, iv_add, iv_sub, iv_mul, iv_neg, iv_ltT, iv_ltF, iv_leT, iv_leF, iv_eqT, iv_eqF, iv_div, iv_mod, ↓bnI_s, ↓bnV_s, ↓bnJ_s, ↓bnR_s, rt_e, rt_0, rt_bz, sv_s, sv_o, ur_s, ur_e, ur_o, bz_T, bz_F, nat_eqF, Nat.reduceAdd]
        have x11 : X (11 + n) = b := by rw [hX]; simp (disch := first | decide | omega | (simp (disch := first | decide | omega) only [sv_s, sv_o, ur_s, ur_e, ur_o]; omega)) only [↓reduceIte, iv_add, iv_sub, iv_mul, iv_neg, iv_ltT, iv_ltF, iv_leT, iv_leF, iv_eqT, iv_eqF, iv_div, iv_mod, ↓bnI_s, ↓bnV_s, ↓bnJ_s, ↓bnR_s, rt_e, rt_0, rt_bz, sv_s, sv_o, ur_s, ur_e, ur_o, bz_T, bz_F, nat_eqF, Nat.reduceAdd]
        have x17 : X (17 + n) = n := by rw [hX]; simp (disch := first | decide | omega | (simp (disch := first | decide | omega) only [sv_s, sv_o, ur_s, ur_e, ur_o]; omega)) only [↓reduceIte, iv_add, iv_sub, iv_mul, iv_neg, iv_ltT, iv_ltF, iv_leT, iv_leF, iv_eqT, iv_eqF, iv_div, iv_mod, ↓bnI_s, ↓bnV_s, ↓bnJ_s, ↓bnR_s, rt_e, rt_0, rt_bz, sv_s, sv_o, ur_s, ur_e, ur_o, bz_T, bz_F, nat_eqF, Nat.reduceAdd]
        have x23 : X (23 + n) = a := by rw [hX]; simp (disch := first | decide | omega | (simp (disch := first | decide | omega) only [sv_s, sv_o, ur_s, ur_e, ur_o]; omega)) only [↓reduceIte, iv_add, iv_sub, iv_mul, iv_neg, iv_ltT, iv_ltF, iv_leT, iv_leF, iv_eqT, iv_eqF, iv_div, iv_mod, ↓bnI_s, ↓bnV_s, ↓bnJ_s, ↓bnR_s, rt_e, rt_0, rt_bz, sv_s, sv_o, ur_s, ur_e, ur_o, bz_T, bz_F, nat_eqF, Nat.reduceAdd]
        have x29 : X (29 + n) = b := by rw [hX]; simp (disch := first | decide | omega | (simp (disch := first | decide | omega) only [sv_s, sv_o, ur_s, ur_e, ur_o]; omega)) only [↓reduceIte, iv_add, iv_sub, iv_mul, iv_neg, iv_ltT, iv_ltF, iv_leT, iv_leF, iv_eqT, iv_eqF, iv_div, iv_mod, ↓bnI_s, ↓bnV_s, ↓bnJ_s, ↓bnR_s, rt_e, rt_0, rt_bz, sv_s, sv_o, ur_s, ur_e, ur_o, bz_T, bz_F, nat_eqF, Nat.reduceAdd]
        have xr : ∀ k, k ≠ 0 → k ≠ 11 + n → k ≠ 17 + n → k ≠ 23 + n → k ≠ 29 + n → X k = A k := fun k h1 h2 h3 h4 h5 => by rw [hX]; simp (disch := first | decide | omega | (simp (disch := first | decide | omega) only [sv_s, sv_o, ur_s, ur_e, ur_o]; omega)) only [↓reduceIte, iv_add, iv_sub, iv_mul, iv_neg, iv_ltT, iv_ltF, iv_leT, iv_leF, iv_eqT, iv_eqF, iv_div, iv_mod, ↓bnI_s, ↓bnV_s, ↓bnJ_s, ↓bnR_s, rt_e, rt_0, rt_bz, sv_s, sv_o, ur_s, ur_e, ur_o, bz_T, bz_F, nat_eqF, Nat.reduceAdd]
        have e10 : ∀ k, k ≠ 5 → W 10 k = V 10 k := fun k hk => by rw [hW]; simp (disch := first | decide | omega | (simp (disch := first | decide | omega) only [sv_s, sv_o, ur_s, ur_e, ur_o]; omega)) only [↓reduceIte, iv_add, iv_sub, iv_mul, iv_neg, iv_ltT, iv_ltF, iv_leT, iv_leF, iv_eqT, iv_eqF, iv_div, iv_mod, ↓bnI_s, ↓bnV_s, ↓bnJ_s, ↓bnR_s, rt_e, rt_0, rt_bz, sv_s, sv_o, ur_s, ur_e, ur_o, bz_T, bz_F, nat_eqF, Nat.reduceAdd]
        have e105 : W 10 5 = n + 1 := by rw [hW]; simp (disch := first | decide | omega | (simp (disch := first | decide | omega) only [sv_s, sv_o, ur_s, ur_e, ur_o]; omega)) only [↓reduceIte, iv_add, iv_sub, iv_mul, iv_neg, iv_ltT, iv_ltF, iv_leT, iv_leF, iv_eqT, iv_eqF, iv_div, iv_mod, ↓bnI_s, ↓bnV_s, ↓bnJ_s, ↓bnR_s, rt_e, rt_0, rt_bz, sv_s, sv_o, ur_s, ur_e, ur_o, bz_T, bz_F, nat_eqF, Nat.reduceAdd]
        have e11 : W 11 = ur (V 11) n a := by rw [hW]; simp (disch := first | decide | omega | (simp (disch := first | decide | omega) only [sv_s, sv_o, ur_s, ur_e, ur_o]; omega)) only [↓reduceIte, iv_add, iv_sub, iv_mul, iv_neg, iv_ltT, iv_ltF, iv_leT, iv_leF, iv_eqT, iv_eqF, iv_div, iv_mod, ↓bnI_s, ↓bnV_s, ↓bnJ_s, ↓bnR_s, rt_e, rt_0, rt_bz, sv_s, sv_o, ur_s, ur_e, ur_o, bz_T, bz_F, nat_eqF, Nat.reduceAdd]
        have e12 : W 12 = ur (V 12) n b := by rw [hW]; simp (disch := first | decide | omega | (simp (disch := first | decide | omega) only [sv_s, sv_o, ur_s, ur_e, ur_o]; omega)) only [↓reduceIte, iv_add, iv_sub, iv_mul, iv_neg, iv_ltT, iv_ltF, iv_leT, iv_leF, iv_eqT, iv_eqF, iv_div, iv_mod, ↓bnI_s, ↓bnV_s, ↓bnJ_s, ↓bnR_s, rt_e, rt_0, rt_bz, sv_s, sv_o, ur_s, ur_e, ur_o, bz_T, bz_F, nat_eqF, Nat.reduceAdd]
        have e13 : W 13 = ur (V 13) n n := by rw [hW]; simp (disch := first | decide | omega | (simp (disch := first | decide | omega) only [sv_s, sv_o, ur_s, ur_e, ur_o]; omega)) only [↓reduceIte, iv_add, iv_sub, iv_mul, iv_neg, iv_ltT, iv_ltF, iv_leT, iv_leF, iv_eqT, iv_eqF, iv_div, iv_mod, ↓bnI_s, ↓bnV_s, ↓bnJ_s, ↓bnR_s, rt_e, rt_0, rt_bz, sv_s, sv_o, ur_s, ur_e, ur_o, bz_T, bz_F, nat_eqF, Nat.reduceAdd]
        have e14 : W 14 = ur (V 14) n n := by rw [hW]; simp (disch := first | decide | omega | (simp (disch := first | decide | omega) only [sv_s, sv_o, ur_s, ur_e, ur_o]; omega)) only [↓reduceIte, iv_add, iv_sub, iv_mul, iv_neg, iv_ltT, iv_ltF, iv_leT, iv_leF, iv_eqT, iv_eqF, iv_div, iv_mod, ↓bnI_s, ↓bnV_s, ↓bnJ_s, ↓bnR_s, rt_e, rt_0, rt_bz, sv_s, sv_o, ur_s, ur_e, ur_o, bz_T, bz_F, nat_eqF, Nat.reduceAdd]
        have eo : ∀ c, ¬ (10 ≤ c ∧ c < 15) → W c = V c := fun c h1 => by rw [hW]; simp (disch := first | decide | omega | (simp (disch := first | decide | omega) only [sv_s, sv_o, ur_s, ur_e, ur_o]; omega)) only [↓reduceIte, iv_add, iv_sub, iv_mul, iv_neg, iv_ltT, iv_ltF, iv_leT, iv_leF, iv_eqT, iv_eqF, iv_div, iv_mod, ↓bnI_s, ↓bnV_s, ↓bnJ_s, ↓bnR_s, rt_e, rt_0, rt_bz, sv_s, sv_o, ur_s, ur_e, ur_o, bz_T, bz_F, nat_eqF, Nat.reduceAdd]
        have eM : ∀ U K, U 436 = A → cA m_M_kin [.ref 435, .int (iv a), .int (iv b)] (em U K z) = some (.int (iv n), em (sv (sv (sv (sv (sv U 436 (23 + n) a) 436 (29 + n) b) 436 (11 + n) b) 436 (17 + n) n) 436 0 (n + 1)) K z) := by
          intro U K hU
          have u0 : U 436 0 = n := by rw [hU]; exact hn
          simp (disch := first | decide | omega | (simp (disch := first | decide | omega) only [sv_s, sv_o, ur_s, ur_e, ur_o]; omega)) only [↓reduceIte, iv_add, iv_sub, iv_mul, iv_neg, iv_ltT, iv_ltF, iv_leT, iv_leF, iv_eqT, iv_eqF, iv_div, iv_mod, ↓bnI_s, ↓bnV_s, ↓bnJ_s, ↓bnR_s, rt_e, rt_0, rt_bz, sv_s, sv_o, ur_s, ur_e, ur_o, bz_T, bz_F, nat_eqF, Nat.reduceAdd, ↓q_M_kin, ↓gR_435_0 F, ↓lI_436 F, ↓lI_437 F, ↓lI_438 F, ↓lI_439 F, ↓lI_440 F, ↓lI_441 F, ↓lI_443 F, ↓lI_444 F, ↓lI_445 F, ↓lI_446 F, ↓lI_447 F, ↓lI_448 F, ↓lI_449 F, ↓lI_450 F, ↓sI_436 F, ↓sI_437 F, ↓sI_438 F, ↓sI_439 F, ↓sI_440 F, ↓sI_441 F, ↓sI_443 F, ↓sI_444 F, ↓sI_445 F, ↓sI_446 F, ↓sI_447 F, ↓sI_448 F, ↓sI_449 F, ↓sI_450 F, ↓gd_435 F, il_0, il_1, il_6, il_9, il_11, il_23, il_27, il_29, il_99, y_isIn, u0, y_begin F]
        refine ⟨n, X, W, J, eX, ⟨m.1.tr fun c k _ h1 _ _ => by rw [eo c (by omega)], ⟨?_, ?_⟩, m.2.2.tr ⟨fun k hk => xr k (by omega) (by omega) (by omega) (by omega) (by omega), by omega⟩⟩, by omega, fun U K hU _ _ => ⟨_, _, eM U K hU, by rw [hX]; simp (disch := first | decide | omega | (simp (disch := first | decide | omega) only [sv_s, sv_o, ur_s, ur_e, ur_o]; omega)) only [↓reduceIte, iv_add, iv_sub, iv_mul, iv_neg, iv_ltT, iv_ltF, iv_leT, iv_leF, iv_eqT, iv_eqF, iv_div, iv_mod, ↓bnI_s, ↓bnV_s, ↓bnJ_s, ↓bnR_s, rt_e, rt_0, rt_bz, sv_s, sv_o, ur_s, ur_e, ur_o, bz_T, bz_F, nat_eqF, Nat.reduceAdd, hU], fun c j _ h => by simp (disch := first | decide | omega | (simp (disch := first | decide | omega) only [sv_s, sv_o, ur_s, ur_e, ur_o]; omega)) only [↓reduceIte, iv_add, iv_sub, iv_mul, iv_neg, iv_ltT, iv_ltF, iv_leT, iv_leF, iv_eqT, iv_eqF, iv_div, iv_mod, ↓bnI_s, ↓bnV_s, ↓bnJ_s, ↓bnR_s, rt_e, rt_0, rt_bz, sv_s, sv_o, ur_s, ur_e, ur_o, bz_T, bz_F, nat_eqF, Nat.reduceAdd]⟩⟩
        · clear hX hW eX eM
          obtain ⟨r1, r2, r3, r4, r5, r6, r7⟩ := n4
          refine ⟨e105.trans x0.symm, by omega, fun k k0 k1 => ?_, fun k k0 k1 => ?_, fun s s0 s1 => ?_, ?_, ?_, ?_, ?_, ?_⟩
          · rw [show (10 : Nat) + 1 = 11 from rfl, e11]
            by_cases q : k = n
            · rw [q, ur_s, x23, x29]; exact ⟨rfl, h1, h2⟩
            · rw [ur_o q, xr (23 + k) (by omega) (by omega) (by omega) (by omega) (by omega), xr (29 + k) (by omega) (by omega) (by omega) (by omega) (by omega)]
              exact n3 k k0 (by omega)
          · unfold Tk
            rw [show (10 : Nat) + 2 = 12 from rfl, show (10 : Nat) + 3 = 13 from rfl, show (10 : Nat) + 4 = 14 from rfl, e12, e13, e14, x0]
            by_cases q : k = n
            · rw [q, ur_s, ur_s, x11, x17, ur_s]; exact ⟨rfl, rfl, rfl, h2, by omega⟩
            · have d := r1 k k0 (by omega)
              have d1 : V 12 k = A (11 + k) := d.1
              have d2 : V 13 k = A (17 + k) := d.2.1
              have d3 : V 14 (A (17 + k)) = k := d.2.2.1
              have d4 := d.2.2.2
              rw [ur_o q, ur_o q, xr (11 + k) (by omega) (by omega) (by omega) (by omega) (by omega), xr (17 + k) (by omega) (by omega) (by omega) (by omega) (by omega), ur_o (by omega)]
              exact ⟨d1, d2, d3, d4.1, by omega⟩
          · unfold Ts
            rw [show (10 : Nat) + 4 = 14 from rfl, e14, x0]
            by_cases q : s = n
            · rw [q, ur_s, x17]; exact ⟨by omega, rfl⟩
            · have d := r2 s s0 (by omega)
              have d1 : 0 ≤ V 14 s ∧ V 14 s < n := d.1
              have d2 : A (17 + V 14 s) = s := d.2
              rw [ur_o q, xr (17 + V 14 s) (by omega) (by omega) (by omega) (by omega) (by omega)]
              exact ⟨by omega, d2⟩
          · rw [e10 6 (by omega), xr 10 (by omega) (by omega) (by omega) (by omega) (by omega)]; exact r3
          · rw [e10 7 (by omega), xr 7 (by omega) (by omega) (by omega) (by omega) (by omega)]; exact r4
          · rw [e10 8 (by omega), xr 8 (by omega) (by omega) (by omega) (by omega) (by omega)]; exact r5
          · rw [e10 9 (by omega), xr 9 (by omega) (by omega) (by omega) (by omega) (by omega)]; exact r6
          · intro i i0 i1
            rw [xr 9 (by omega) (by omega) (by omega) (by omega) (by omega)] at i1
            rw [show (10 : Nat) + 5 = 15 from rfl, eo 15 (by omega), xr _ (by omega) (by omega) (by omega) (by omega) (by omega)]
            exact r7 i i0 i1
        · clear hX hW eX eM
          refine Sts_kin ks.2 (by rw [eo 9 (by omega)]) (by rw [eo 9 (by omega)]) (fun c h1 h2 => eo c (by omega)) (by omega) (by omega) (xr 3 (by omega) (by omega) (by omega) (by omega) (by omega)) (fun k k0 k1 => ⟨xr _ (by omega) (by omega) (by omega) (by omega) (by omega), xr _ (by omega) (by omega) (by omega) (by omega) (by omega), xr _ (by omega) (by omega) (by omega) (by omega) (by omega)⟩) ?_ (fun k k0 k1 => xr k (by omega) (by omega) (by omega) (by omega) (by omega))
          rw [hn, x11, x17, x29]
          exact ⟨rfl, rfl⟩
    · refine ⟨-1, A, V, J, ?_, m, by omega, fun U K hU _ _ => ⟨U, K, ?_, hU, frM.rfl_⟩⟩
      · simp (disch := first | decide | omega | (simp (disch := first | decide | omega) only [sv_s, sv_o, ur_s, ur_e, ur_o]; omega)) only [↓reduceIte, iv_add, iv_sub, iv_mul, iv_neg, iv_ltT, iv_ltF, iv_leT, iv_leF, iv_eqT, iv_eqF, iv_div, iv_mod, ↓bnI_s, ↓bnV_s, ↓bnJ_s, ↓bnR_s, rt_e, rt_0, rt_bz, sv_s, sv_o, ur_s, ur_e, ur_o, bz_T, bz_F, nat_eqF, Nat.reduceAdd, ↓q_X_kin, ↓gR_8_0 F, ↓gR_9_0 F, ↓gd_8 F, il_0, il_1, il_2, il_9, il_10, il_26, il_99, y_within]
      · simp (disch := first | decide | omega | (simp (disch := first | decide | omega) only [sv_s, sv_o, ur_s, ur_e, ur_o]; omega)) only [↓reduceIte, iv_add, iv_sub, iv_mul, iv_neg, iv_ltT, iv_ltF, iv_leT, iv_leF, iv_eqT, iv_eqF, iv_div, iv_mod, ↓bnI_s, ↓bnV_s, ↓bnJ_s, ↓bnR_s, rt_e, rt_0, rt_bz, sv_s, sv_o, ur_s, ur_e, ur_o, bz_T, bz_F, nat_eqF, Nat.reduceAdd, ↓q_M_kin, ↓gR_435_0 F, ↓lI_436 F, ↓lI_437 F, ↓lI_438 F, ↓lI_439 F, ↓lI_440 F, ↓lI_441 F, ↓lI_443 F, ↓lI_444 F, ↓lI_445 F, ↓lI_446 F, ↓lI_447 F, ↓lI_448 F, ↓lI_449 F, ↓lI_450 F, ↓sI_436 F, ↓sI_437 F, ↓sI_438 F, ↓sI_439 F, ↓sI_440 F, ↓sI_441 F, ↓sI_443 F, ↓sI_444 F, ↓sI_445 F, ↓sI_446 F, ↓sI_447 F, ↓sI_448 F, ↓sI_449 F, ↓sI_450 F, ↓gd_435 F, il_0, il_1, il_6, il_9, il_11, il_23, il_27, il_29, il_99, y_isIn]
  · refine ⟨-1, A, V, J, ?_, m, by omega, fun U K hU _ _ => ⟨U, K, ?_, hU, frM.rfl_⟩⟩
    · simp (disch := first | decide | omega | (simp (disch := first | decide | omega) only [sv_s, sv_o, ur_s, ur_e, ur_o]; omega)) only [↓reduceIte, iv_add, iv_sub, iv_mul, iv_neg, iv_ltT, iv_ltF, iv_leT, iv_leF, iv_eqT, iv_eqF, iv_div, iv_mod, ↓bnI_s, ↓bnV_s, ↓bnJ_s, ↓bnR_s, rt_e, rt_0, rt_bz, sv_s, sv_o, ur_s, ur_e, ur_o, bz_T, bz_F, nat_eqF, Nat.reduceAdd, ↓q_X_kin, ↓gR_8_0 F, ↓gR_9_0 F, ↓gd_8 F, il_0, il_1, il_2, il_9, il_10, il_26, il_99, y_within]
    · simp (disch := first | decide | omega | (simp (disch := first | decide | omega) only [sv_s, sv_o, ur_s, ur_e, ur_o]; omega)) only [↓reduceIte, iv_add, iv_sub, iv_mul, iv_neg, iv_ltT, iv_ltF, iv_leT, iv_leF, iv_eqT, iv_eqF, iv_div, iv_mod, ↓bnI_s, ↓bnV_s, ↓bnJ_s, ↓bnR_s, rt_e, rt_0, rt_bz, sv_s, sv_o, ur_s, ur_e, ur_o, bz_T, bz_F, nat_eqF, Nat.reduceAdd, ↓q_M_kin, ↓gR_435_0 F, ↓lI_436 F, ↓lI_437 F, ↓lI_438 F, ↓lI_439 F, ↓lI_440 F, ↓lI_441 F, ↓lI_443 F, ↓lI_444 F, ↓lI_445 F, ↓lI_446 F, ↓lI_447 F, ↓lI_448 F, ↓lI_449 F, ↓lI_450 F, ↓sI_436 F, ↓sI_437 F, ↓sI_438 F, ↓sI_439 F, ↓sI_440 F, ↓sI_441 F, ↓sI_443 F, ↓sI_444 F, ↓sI_445 F, ↓sI_446 F, ↓sI_447 F, ↓sI_448 F, ↓sI_449 F, ↓sI_450 F, ↓gd_435 F, il_0, il_1, il_6, il_9, il_11, il_23, il_27, il_29, il_99, y_isIn]
end
