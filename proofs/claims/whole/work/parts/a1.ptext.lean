/-! A TEXT, said -/
section
variable {V J U : Vm} {z : Zz} {xs : Nat → Int32}
theorem y_keepT {W : Vm} {z3 : Zz} {N : Nat} {i : Int} (F3 : Fix z3) (hN : 451 ≤ N) (sN : z3.2.1 N = (25, 4)) (hi : 0 ≤ i ∧ i ≤ 3) (h : W 9 11 = i) : cA m_House_keepText [.ref 9, .ref N] (em W J z3) = some (.int (iv i), em (sv W 9 11 (i + 1)) J (zk z3 N i)) := by
  have s17 : z3.2.1 17 = (6, 4) := hS8 F3 (Or.inl rfl)
  have st := stR_e (V := W) (J := J) (z := z3) (a := 17) (kk := 6) (n := 4) (x := N) (i := i) (f := fun h7 => gfI h7 2 11 9 fun w8 => pfI h7 2 11 9 (w8 + 1) fun h9 => gfI h9 2 11 9 fun w10 => some (.int (w10 - 1), h9)) s17 rfl (by decide) (Or.inr ⟨by omega, by rw [sN]; rfl⟩) (by omega) (by decide)
  have F := Fix_zk F3 (N := N) (i := i)
  have e : ((va_up z3.1 17 (va_up (z3.1 17) i.toNat N), z3.2) : Zz) = zk z3 N i := rfl
  rw [e] at st
  have l4 : iv i < iv ((4 : Nat) : Int) := of_eq_true (iv_ltT (a := i) (b := ((4 : Nat) : Int)) (by omega))
  have l0 : ¬ iv i < (0 : Int32) := of_eq_false (iv_ltF (a := i) (b := 0) (by omega))
  rw [q_House_keepText, gd_9 F3, gI_9_11 F3, h, gR_9_2 F3, alN_e s17 rfl, if_pos l4, gI_9_11 F3, h, if_neg l0, gR_9_2 F3, gI_9_11 F3, h, st]
  rw [gI_9_11 F, h, il_1, iv_add i 1, pI_9_11 F, gI_9_11 F, sv_s, ur_s, iv_sub, show i + 1 - 1 = i by omega]
theorem p_text (F : Fix z) (Z : Fz z) (g : GI TXR (xI xs) V z) : Pz TXR (xI xs) V J z (fun h => cA m_X_text [.ref 8] h) (fun h => cA m_M_text [.ref 435] h) := by
  have g' := g
  obtain ⟨g1, g2, g3, g4, g5, g6, g7, g8⟩ := g'
  have tx := g1.2.2.2.2.2.2.2.2
  have t11 := tx.1
  have t14 := tx.2.1
  obtain ⟨i0, hi0⟩ : ∃ i0, V 436 1 = i0 := ⟨_, rfl⟩
  have N451 : 451 ≤ z.2.2.1 := F.2.1
  rw [hi0] at t11 t14
  by_cases c4 : i0 = 4
  · subst c4
    refine ⟨-1, V, J, z, V, J, z, ?_, ?_, g, F, Z, by omega, by omega⟩
    · simp (disch := first | decide | omega | (simp (disch := first | decide | omega) only [sv_s, sv_o, ur_s, ur_e, ur_o]; omega)) only [↓reduceIte, iv_add, iv_sub, iv_mul, iv_neg, iv_ltT, iv_ltF, iv_leT, iv_leF, iv_eqT, iv_eqF, iv_div, iv_mod, ↓bnI_s, ↓bnV_s, ↓bnJ_s, ↓bnR_s, rt_e, rt_0, rt_bz, sv_s, sv_o, ur_s, ur_e, ur_o, bz_T, bz_F, nat_eqF, Nat.reduceAdd, ↓q_X_text, ↓gR_8_0 F, ↓gI_9_11 F, ↓gR_8_5 F, ↓gR_8_4 F, ↓pI_419_1 F, ↓gd_8 F, il_0, il_1, il_2, il_4, il_5, il_8, il_10, il_11, il_26, t11]
    · simp (disch := first | decide | omega | (simp (disch := first | decide | omega) only [sv_s, sv_o, ur_s, ur_e, ur_o]; omega)) only [↓reduceIte, iv_add, iv_sub, iv_mul, iv_neg, iv_ltT, iv_ltF, iv_leT, iv_leF, iv_eqT, iv_eqF, iv_div, iv_mod, ↓bnI_s, ↓bnV_s, ↓bnJ_s, ↓bnR_s, rt_e, rt_0, rt_bz, sv_s, sv_o, ur_s, ur_e, ur_o, bz_T, bz_F, nat_eqF, Nat.reduceAdd, ↓q_M_text, ↓gR_435_0 F, ↓gI_435_5 F, ↓gI_435_8 F, ↓pI_435_5 F, ↓lI_436 F, ↓lI_437 F, ↓lI_438 F, ↓lI_439 F, ↓lI_440 F, ↓lI_441 F, ↓lI_443 F, ↓lI_444 F, ↓lI_445 F, ↓lI_446 F, ↓lI_447 F, ↓lI_448 F, ↓lI_449 F, ↓lI_450 F, ↓gd_435 F, il_0, il_1, il_4, il_5, il_8, il_11, il_27, il_36, hi0]
  · have hi : 0 ≤ i0 ∧ i0 ≤ 3 := by omega
    obtain ⟨ta1, ta2, ta3⟩ := g4
    have B : By V (V 420) (V 435 4) := ⟨ta1, rfl, ta2, fun j j0 j1 => by rw [(ta3 j j0 j1).1]; exact (ta3 j j0 j1).2⟩
    have B2' : ∀ U : Vm, U 435 4 = V 435 4 → U 439 = V 439 → B2 U (V 420) (V 435 4) := fun U u1 u2 => ⟨u1, fun j j0 j1 => by rw [u2]; exact (ta3 j j0 j1).1.symm, ta2, B.2.2.2⟩
    rcases t_all (J := J) F B (Wsd_of g8) hi with ⟨V2, V3, J3, z3, s, n, c, ra, ba, a1, ⟨F3, b2, b3, b4, b5, b6, b7, b8, b9, b10, b11, b12, b13⟩, nc, fr, C, sx, sm, md⟩ | ⟨V2, s, j, f, a1, D, pr, fr, sx, md⟩
    · -- it is kept
      obtain ⟨N, hN⟩ : ∃ N, N = z.2.2.1 := ⟨_, rfl⟩
      rw [← hN] at N451 a1 b2 b4 b5 b6 b7 b8 b9 b10 b11 b12 b13 md
      have o2 : ∀ a, a < N → (a < 419 ∨ a = 420 ∨ 426 < a) → V3 a = V a := fun a ha h => (b4 a ha).2.2.trans (fr.1 a h)
      obtain ⟨V4, hV4⟩ : ∃ V4, V4 = sv (sv V3 419 1 0) 9 11 (i0 + 1) := ⟨_, rfl⟩
      have o4 : ∀ a, a ≠ 419 → a ≠ 9 → V4 a = V3 a := fun a h1 h2 => by rw [hV4]; simp (disch := first | decide | omega | (simp (disch := first | decide | omega) only [sv_s, sv_o, ur_s, ur_e, ur_o]; omega)) only [↓reduceIte, iv_add, iv_sub, iv_mul, iv_neg, iv_ltT, iv_ltF, iv_leT, iv_leF, iv_eqT, iv_eqF, iv_div, iv_mod, ↓bnI_s, ↓bnV_s, ↓bnJ_s, ↓bnR_s, rt_e, rt_0, rt_bz, sv_s, sv_o, ur_s, ur_e, ur_o, bz_T, bz_F, nat_eqF, Nat.reduceAdd]
      have F4 := Fix_zk F3 (N := N) (i := i0)
      have v435 : V4 435 = V 435 := (o4 435 (by decide) (by decide)).trans (o2 435 (by omega) (by omega))
      have v436 : V4 436 = V 436 := (o4 436 (by decide) (by decide)).trans (o2 436 (by omega) (by omega))
      have v439 : V4 439 = V 439 := (o4 439 (by decide) (by decide)).trans (o2 439 (by omega) (by omega))
      have v438 : V4 438 = V 438 := (o4 438 (by decide) (by decide)).trans (o2 438 (by omega) (by omega))
      obtain ⟨U', K', w', on', m1, m2, R, mf⟩ := md V4 J3 (B2' V4 (by rw [v435]) v439) (by rw [v436]; exact hi0)
      have u436 : U' 436 = V 436 := (mf.1 436 (by decide) (by decide) (by decide)).trans v436
      have kp := y_keepT (J := J3) (W := sv V3 419 1 0) F3 N451 b5 hi (by rw [sv_o, o2 9 (by omega) (by omega)]; exact t11; decide)
      rw [← hV4] at kp
      have n0 : (N = 0) = False := eq_false (by omega)
      obtain ⟨U5, hU5⟩ : ∃ U5, U5 = sv (sv (sv (sv U' 435 5 0) 435 6 (-1)) 435 4 0) 436 1 (i0 + 1) := ⟨_, rfl⟩
      have o5 : ∀ a, a ≠ 435 → a ≠ 436 → U5 a = U' a := fun a h1 h2 => by rw [hU5]; simp (disch := first | decide | omega | (simp (disch := first | decide | omega) only [sv_s, sv_o, ur_s, ur_e, ur_o]; omega)) only [↓reduceIte, iv_add, iv_sub, iv_mul, iv_neg, iv_ltT, iv_ltF, iv_leT, iv_leF, iv_eqT, iv_eqF, iv_div, iv_mod, ↓bnI_s, ↓bnV_s, ↓bnJ_s, ↓bnR_s, rt_e, rt_0, rt_bz, sv_s, sv_o, ur_s, ur_e, ur_o, bz_T, bz_F, nat_eqF, Nat.reduceAdd]
      have rn : ∀ a, 450 < a → U5 a = V3 a := fun a h1 => by
        rw [o5 a (by omega) (by omega), mf.1 a (by omega) (by omega) (by omega), o4 a (by omega) (by omega)]
      have u438 : U5 438 = U' 438 := o5 438 (by decide) (by decide)
      have tN : TXR U5 (zk z3 N i0) N i0 := by
        obtain ⟨r1, r2, r3, r4, r5, r6, r7⟩ := R
        rw [sx] at r4 r5 r6 m2
        have q0 : (zk z3 N i0).1 N = z3.1 N := va_up_o _ _ _ _ (by omega)
        refine ⟨N + 1, N + 2, n, c, ⟨⟨N451, ?_⟩, b5, by rw [q0]; exact b6, by rw [q0]; exact b7⟩, ⟨⟨by omega, ?_⟩, b8⟩, ⟨⟨by omega, ?_⟩, b9⟩, ⟨nc.1, nc.2.1⟩, ⟨nc.2.2.1, nc.2.2.2⟩, by rw [u438]; exact m2, fun k k0 k1 => ?_, ?_, ?_⟩
        · show N < z3.2.2.1
          omega
        · show N + 1 < z3.2.2.1
          omega
        · show N + 2 < z3.2.2.1
          omega
        · rw [u438, rn (N + 1) (by omega), b12 (3 * k) (by omega) (by omega), b12 (3 * k + 1) (by omega) (by omega), b12 (3 * k + 2) (by omega) (by omega)]
          exact r4 k k0 k1
        · rw [u438, rn (N + 2) (by omega), rn N (by omega), b10]
          exact r5.txl (by omega) b13
        · rw [u438, rn (N + 2) (by omega), rn N (by omega), b11]
          exact r6.txl (by omega) b13
      have GIU : GI TXR (xI xs) U5 (zk z3 N i0) := by
        refine GI_t g (by omega) (fun a h1 h2 h3 h4 h5 h6 h7 => ?_) (fun k hk => ?_) ?_ ?_ (fun k hk => ?_) (fun k hk => ?_) (fun a ha => (b4 a (by omega)).1) (fun a ha h17 => ?_) (fun k hk => ?_) ?_ (fun i j0 j1 => ?_) ?_ ?_ ?_
        · rw [o5 a h4 h5, mf.1 a h4 h6 h7, o4 a (by omega) h2]
          exact o2 a (by omega) h3
        · rw [o5 9 (by decide) (by decide), mf.1 9 (by decide) (by decide) (by decide), hV4, ← o2 9 (by omega) (by omega)]
          simp (disch := first | decide | omega | (simp (disch := first | decide | omega) only [sv_s, sv_o, ur_s, ur_e, ur_o]; omega)) only [↓reduceIte, iv_add, iv_sub, iv_mul, iv_neg, iv_ltT, iv_ltF, iv_leT, iv_leF, iv_eqT, iv_eqF, iv_div, iv_mod, ↓bnI_s, ↓bnV_s, ↓bnJ_s, ↓bnR_s, rt_e, rt_0, rt_bz, sv_s, sv_o, ur_s, ur_e, ur_o, bz_T, bz_F, nat_eqF, Nat.reduceAdd]
        · rw [o5 9 (by decide) (by decide), mf.1 9 (by decide) (by decide) (by decide), hV4, hU5]
          simp (disch := first | decide | omega | (simp (disch := first | decide | omega) only [sv_s, sv_o, ur_s, ur_e, ur_o]; omega)) only [↓reduceIte, iv_add, iv_sub, iv_mul, iv_neg, iv_ltT, iv_ltF, iv_leT, iv_leF, iv_eqT, iv_eqF, iv_div, iv_mod, ↓bnI_s, ↓bnV_s, ↓bnJ_s, ↓bnR_s, rt_e, rt_0, rt_bz, sv_s, sv_o, ur_s, ur_e, ur_o, bz_T, bz_F, nat_eqF, Nat.reduceAdd]
        · rw [hi0, hU5]
          simp (disch := first | decide | omega | (simp (disch := first | decide | omega) only [sv_s, sv_o, ur_s, ur_e, ur_o]; omega)) only [↓reduceIte, iv_add, iv_sub, iv_mul, iv_neg, iv_ltT, iv_ltF, iv_leT, iv_leF, iv_eqT, iv_eqF, iv_div, iv_mod, ↓bnI_s, ↓bnV_s, ↓bnJ_s, ↓bnR_s, rt_e, rt_0, rt_bz, sv_s, sv_o, ur_s, ur_e, ur_o, bz_T, bz_F, nat_eqF, Nat.reduceAdd]
          omega
        · rw [hU5]
          simp (disch := first | decide | omega | (simp (disch := first | decide | omega) only [sv_s, sv_o, ur_s, ur_e, ur_o]; omega)) only [↓reduceIte, iv_add, iv_sub, iv_mul, iv_neg, iv_ltT, iv_ltF, iv_leT, iv_leF, iv_eqT, iv_eqF, iv_div, iv_mod, ↓bnI_s, ↓bnV_s, ↓bnJ_s, ↓bnR_s, rt_e, rt_0, rt_bz, sv_s, sv_o, ur_s, ur_e, ur_o, bz_T, bz_F, nat_eqF, Nat.reduceAdd, u436]
        · rw [u438, mf.2.2 k (by omega), v438]
        · show va_up z3.1 17 (va_up (z3.1 17) i0.toNat N) a = z.1 a
          rw [va_up_o _ _ _ _ h17]
          exact (b4 a (by omega)).2.1
        · show va_up z3.1 17 (va_up (z3.1 17) i0.toNat N) 17 k = z.1 17 k
          rw [va_up_s, va_up_o _ _ _ _ (by rw [hi0] at hk; exact hk), (b4 17 (by omega)).2.1]
        · show z.2.2.1 ≤ z3.2.2.1
          omega
        · have e : i = i0 := by
            have : U5 436 1 = i0 + 1 := by rw [hU5]; simp (disch := first | decide | omega | (simp (disch := first | decide | omega) only [sv_s, sv_o, ur_s, ur_e, ur_o]; omega)) only [↓reduceIte, iv_add, iv_sub, iv_mul, iv_neg, iv_ltT, iv_ltF, iv_leT, iv_leF, iv_eqT, iv_eqF, iv_div, iv_mod, ↓bnI_s, ↓bnV_s, ↓bnJ_s, ↓bnR_s, rt_e, rt_0, rt_bz, sv_s, sv_o, ur_s, ur_e, ur_o, bz_T, bz_F, nat_eqF, Nat.reduceAdd]
            omega
          rw [e]
          have e2 : (zk z3 N i0).1 17 i0.toNat = N := by
            show va_up z3.1 17 (va_up (z3.1 17) i0.toNat N) 17 i0.toNat = N
            rw [va_up_s, va_up_s]
          rw [e2]
          exact tN
        · have e1 : U5 435 4 = 0 := by rw [hU5]; simp (disch := first | decide | omega | (simp (disch := first | decide | omega) only [sv_s, sv_o, ur_s, ur_e, ur_o]; omega)) only [↓reduceIte, iv_add, iv_sub, iv_mul, iv_neg, iv_ltT, iv_ltF, iv_leT, iv_leF, iv_eqT, iv_eqF, iv_div, iv_mod, ↓bnI_s, ↓bnV_s, ↓bnJ_s, ↓bnR_s, rt_e, rt_0, rt_bz, sv_s, sv_o, ur_s, ur_e, ur_o, bz_T, bz_F, nat_eqF, Nat.reduceAdd]
          have e2 : U5 419 1 = 0 := by
            rw [o5 419 (by decide) (by decide), mf.1 419 (by decide) (by decide) (by decide), hV4]
            simp (disch := first | decide | omega | (simp (disch := first | decide | omega) only [sv_s, sv_o, ur_s, ur_e, ur_o]; omega)) only [↓reduceIte, iv_add, iv_sub, iv_mul, iv_neg, iv_ltT, iv_ltF, iv_leT, iv_leF, iv_eqT, iv_eqF, iv_div, iv_mod, ↓bnI_s, ↓bnV_s, ↓bnJ_s, ↓bnR_s, rt_e, rt_0, rt_bz, sv_s, sv_o, ur_s, ur_e, ur_o, bz_T, bz_F, nat_eqF, Nat.reduceAdd]
          exact ⟨by omega, by omega, fun i j0 j1 => absurd j1 (by omega)⟩
        · have e1 : U5 435 5 = 0 := by rw [hU5]; simp (disch := first | decide | omega | (simp (disch := first | decide | omega) only [sv_s, sv_o, ur_s, ur_e, ur_o]; omega)) only [↓reduceIte, iv_add, iv_sub, iv_mul, iv_neg, iv_ltT, iv_ltF, iv_leT, iv_leF, iv_eqT, iv_eqF, iv_div, iv_mod, ↓bnI_s, ↓bnV_s, ↓bnJ_s, ↓bnR_s, rt_e, rt_0, rt_bz, sv_s, sv_o, ur_s, ur_e, ur_o, bz_T, bz_F, nat_eqF, Nat.reduceAdd]
          have e2 : U5 435 6 = -1 := by rw [hU5]; simp (disch := first | decide | omega | (simp (disch := first | decide | omega) only [sv_s, sv_o, ur_s, ur_e, ur_o]; omega)) only [↓reduceIte, iv_add, iv_sub, iv_mul, iv_neg, iv_ltT, iv_ltF, iv_leT, iv_leF, iv_eqT, iv_eqF, iv_div, iv_mod, ↓bnI_s, ↓bnV_s, ↓bnJ_s, ↓bnR_s, rt_e, rt_0, rt_bz, sv_s, sv_o, ur_s, ur_e, ur_o, bz_T, bz_F, nat_eqF, Nat.reduceAdd]
          have e3 : U5 424 = V2 424 := by
            rw [o5 424 (by decide) (by decide), mf.1 424 (by decide) (by decide) (by decide), o4 424 (by decide) (by decide)]
            exact (b4 424 (by omega)).2.2
          unfold Fau
          rw [e1, e2, e3, C.2.2.1, C.2.2.2.2.2.2.2]
          omega
        · have e1 : U5 435 23 = U' 435 23 := by rw [hU5]; simp (disch := first | decide | omega | (simp (disch := first | decide | omega) only [sv_s, sv_o, ur_s, ur_e, ur_o]; omega)) only [↓reduceIte, iv_add, iv_sub, iv_mul, iv_neg, iv_ltT, iv_ltF, iv_leT, iv_leF, iv_eqT, iv_eqF, iv_div, iv_mod, ↓bnI_s, ↓bnV_s, ↓bnJ_s, ↓bnR_s, rt_e, rt_0, rt_bz, sv_s, sv_o, ur_s, ur_e, ur_o, bz_T, bz_F, nat_eqF, Nat.reduceAdd]
          rw [e1, mf.2.1 23 (by omega) (by omega), v435]
          exact g7
      refine ⟨i0, V4, J3, zk z3 N i0, U5, K', zk z3 N i0, ?_, ?_, GIU, F4, Fz_t Z hN N451 (fun a ha => (b4 a ha).1) (fun a ha => (b4 a ha).2.1) b5 b2, ?_, ?_⟩
      · simp (disch := first | decide | omega | (simp (disch := first | decide | omega) only [sv_s, sv_o, ur_s, ur_e, ur_o]; omega)) only [↓reduceIte, iv_add, iv_sub, iv_mul, iv_neg, iv_ltT, iv_ltF, iv_leT, iv_leF, iv_eqT, iv_eqF, iv_div, iv_mod, ↓bnI_s, ↓bnV_s, ↓bnJ_s, ↓bnR_s, rt_e, rt_0, rt_bz, sv_s, sv_o, ur_s, ur_e, ur_o, bz_T, bz_F, nat_eqF, Nat.reduceAdd, ↓q_X_text, ↓gR_8_0 F, ↓gI_9_11 F, ↓gR_8_5 F, ↓gR_8_4 F, ↓pI_419_1 F, ↓gd_8 F, il_0, il_1, il_2, il_4, il_5, il_8, il_10, il_11, il_26, t11, a1, ↓gR_8_4 F3, ↓pI_419_1 F3, ↓gR_8_0 F3, kp, n0]
      · have F := F4
        rw [hU5]
        have ie : i0 + 1 - 1 = i0 := by omega
        simp (disch := first | decide | omega | (simp (disch := first | decide | omega) only [sv_s, sv_o, ur_s, ur_e, ur_o]; omega)) only [↓reduceIte, iv_add, iv_sub, iv_mul, iv_neg, iv_ltT, iv_ltF, iv_leT, iv_leF, iv_eqT, iv_eqF, iv_div, iv_mod, ↓bnI_s, ↓bnV_s, ↓bnJ_s, ↓bnR_s, rt_e, rt_0, rt_bz, sv_s, sv_o, ur_s, ur_e, ur_o, bz_T, bz_F, nat_eqF, Nat.reduceAdd, ↓q_M_text, ↓q_M_text_36, ↓gR_435_0 F, ↓gI_435_5 F, ↓gI_435_8 F, ↓pI_435_5 F, ↓lI_436 F, ↓lI_437 F, ↓lI_438 F, ↓lI_439 F, ↓lI_440 F, ↓lI_441 F, ↓lI_443 F, ↓lI_444 F, ↓lI_445 F, ↓lI_446 F, ↓lI_447 F, ↓lI_448 F, ↓lI_449 F, ↓lI_450 F, ↓gd_435 F, ↓pI_435_6 F, ↓pI_435_4 F, ↓sI_436 F, ↓sI_437 F, ↓sI_438 F, ↓sI_439 F, ↓sI_440 F, ↓sI_441 F, ↓sI_443 F, ↓sI_444 F, ↓sI_445 F, ↓sI_446 F, ↓sI_447 F, ↓sI_448 F, ↓sI_449 F, ↓sI_450 F, il_0, il_1, il_4, il_5, il_6, il_8, il_11, il_27, il_36, v436, hi0, m1, u436, ie]
      · show z3.2.2.1 ≤ _
        omega
      · exact b3
    · -- there is a fault
      obtain ⟨V4, hV4⟩ : ∃ V4, V4 = sv V2 419 1 0 := ⟨_, rfl⟩
      have o4 : ∀ a, a ≠ 419 → V4 a = V2 a := fun a h1 => by rw [hV4]; simp (disch := first | decide | omega | (simp (disch := first | decide | omega) only [sv_s, sv_o, ur_s, ur_e, ur_o]; omega)) only [↓reduceIte, iv_add, iv_sub, iv_mul, iv_neg, iv_ltT, iv_ltF, iv_leT, iv_leF, iv_eqT, iv_eqF, iv_div, iv_mod, ↓bnI_s, ↓bnV_s, ↓bnJ_s, ↓bnR_s, rt_e, rt_0, rt_bz, sv_s, sv_o, ur_s, ur_e, ur_o, bz_T, bz_F, nat_eqF, Nat.reduceAdd]
      have v435 : V4 435 = V 435 := (o4 435 (by decide)).trans (fr.1 435 (by decide))
      have v436 : V4 436 = V 436 := (o4 436 (by decide)).trans (fr.1 436 (by decide))
      have v439 : V4 439 = V 439 := (o4 439 (by decide)).trans (fr.1 439 (by decide))
      have v438 : V4 438 = V 438 := (o4 438 (by decide)).trans (fr.1 438 (by decide))
      obtain ⟨U', K', m1, m2, mf⟩ := md V4 J (B2' V4 (by rw [v435]) v439) (by rw [v436]; exact hi0)
      obtain ⟨p, hp⟩ : ∃ p, p = sP s j := ⟨_, rfl⟩
      rw [← hp] at D pr m2
      obtain ⟨d1, d2, ⟨d3, d3a, d3b⟩, d4, d5⟩ := D
      have u436 : U' 436 = V 436 := (mf.1 436 (by decide) (by decide) (by decide)).trans v436
      obtain ⟨U5, hU5⟩ : ∃ U5, U5 = sv (sv (sv U' 435 5 f) 435 6 p) 435 4 0 := ⟨_, rfl⟩
      have o5 : ∀ a, a ≠ 435 → U5 a = U' a := fun a h1 => by rw [hU5]; simp (disch := first | decide | omega | (simp (disch := first | decide | omega) only [sv_s, sv_o, ur_s, ur_e, ur_o]; omega)) only [↓reduceIte, iv_add, iv_sub, iv_mul, iv_neg, iv_ltT, iv_ltF, iv_leT, iv_leF, iv_eqT, iv_eqF, iv_div, iv_mod, ↓bnI_s, ↓bnV_s, ↓bnJ_s, ↓bnR_s, rt_e, rt_0, rt_bz, sv_s, sv_o, ur_s, ur_e, ur_o, bz_T, bz_F, nat_eqF, Nat.reduceAdd]
      have GIU : GI TXR (xI xs) U5 z := by
        refine GI_t g (by omega) (fun a h1 h2 h3 h4 h5 h6 h7 => ?_) (fun k hk => ?_) ?_ ?_ (fun k hk => ?_) (fun k hk => ?_) (fun a ha => rfl) (fun a ha h17 => rfl) (fun k hk => rfl) (Nat.le_refl _) (fun i j0 j1 => ?_) ?_ ?_ ?_
        · rw [o5 a h4, mf.1 a h4 h6 h7, o4 a (by omega)]
          exact fr.1 a h3
        · rw [o5 9 (by decide), mf.1 9 (by decide) (by decide) (by decide), o4 9 (by decide), fr.1 9 (by decide)]
        · rw [o5 9 (by decide), mf.1 9 (by decide) (by decide) (by decide), o4 9 (by decide), fr.1 9 (by decide), o5 436 (by decide), u436, hi0]
          exact t11
        · rw [o5 436 (by decide), u436]
          omega
        · rw [o5 436 (by decide), u436]
        · rw [o5 438 (by decide), mf.2.2 k (by omega), v438]
        · have e : U5 436 = V 436 := (o5 436 (by decide)).trans u436
          rw [e] at j1
          omega
        · have e1 : U5 435 4 = 0 := by rw [hU5]; simp (disch := first | decide | omega | (simp (disch := first | decide | omega) only [sv_s, sv_o, ur_s, ur_e, ur_o]; omega)) only [↓reduceIte, iv_add, iv_sub, iv_mul, iv_neg, iv_ltT, iv_ltF, iv_leT, iv_leF, iv_eqT, iv_eqF, iv_div, iv_mod, ↓bnI_s, ↓bnV_s, ↓bnJ_s, ↓bnR_s, rt_e, rt_0, rt_bz, sv_s, sv_o, ur_s, ur_e, ur_o, bz_T, bz_F, nat_eqF, Nat.reduceAdd]
          have e2 : U5 419 1 = 0 := by
            rw [o5 419 (by decide), mf.1 419 (by decide) (by decide) (by decide), hV4]
            simp (disch := first | decide | omega | (simp (disch := first | decide | omega) only [sv_s, sv_o, ur_s, ur_e, ur_o]; omega)) only [↓reduceIte, iv_add, iv_sub, iv_mul, iv_neg, iv_ltT, iv_ltF, iv_leT, iv_leF, iv_eqT, iv_eqF, iv_div, iv_mod, ↓bnI_s, ↓bnV_s, ↓bnJ_s, ↓bnR_s, rt_e, rt_0, rt_bz, sv_s, sv_o, ur_s, ur_e, ur_o, bz_T, bz_F, nat_eqF, Nat.reduceAdd]
          exact ⟨by omega, by omega, fun i j0 j1 => absurd j1 (by omega)⟩
        · have e1 : U5 435 5 = f := by rw [hU5]; simp (disch := first | decide | omega | (simp (disch := first | decide | omega) only [sv_s, sv_o, ur_s, ur_e, ur_o]; omega)) only [↓reduceIte, iv_add, iv_sub, iv_mul, iv_neg, iv_ltT, iv_ltF, iv_leT, iv_leF, iv_eqT, iv_eqF, iv_div, iv_mod, ↓bnI_s, ↓bnV_s, ↓bnJ_s, ↓bnR_s, rt_e, rt_0, rt_bz, sv_s, sv_o, ur_s, ur_e, ur_o, bz_T, bz_F, nat_eqF, Nat.reduceAdd]
          have e2 : U5 435 6 = p := by rw [hU5]; simp (disch := first | decide | omega | (simp (disch := first | decide | omega) only [sv_s, sv_o, ur_s, ur_e, ur_o]; omega)) only [↓reduceIte, iv_add, iv_sub, iv_mul, iv_neg, iv_ltT, iv_ltF, iv_leT, iv_leF, iv_eqT, iv_eqF, iv_div, iv_mod, ↓bnI_s, ↓bnV_s, ↓bnJ_s, ↓bnR_s, rt_e, rt_0, rt_bz, sv_s, sv_o, ur_s, ur_e, ur_o, bz_T, bz_F, nat_eqF, Nat.reduceAdd]
          have e3 : U5 424 = V2 424 := by
            rw [o5 424 (by decide), mf.1 424 (by decide) (by decide) (by decide), o4 424 (by decide)]
          unfold Fau
          rw [e1, e2, e3, d3, d4]
          omega
        · have e1 : U5 435 23 = U' 435 23 := by rw [hU5]; simp (disch := first | decide | omega | (simp (disch := first | decide | omega) only [sv_s, sv_o, ur_s, ur_e, ur_o]; omega)) only [↓reduceIte, iv_add, iv_sub, iv_mul, iv_neg, iv_ltT, iv_ltF, iv_leT, iv_leF, iv_eqT, iv_eqF, iv_div, iv_mod, ↓bnI_s, ↓bnV_s, ↓bnJ_s, ↓bnR_s, rt_e, rt_0, rt_bz, sv_s, sv_o, ur_s, ur_e, ur_o, bz_T, bz_F, nat_eqF, Nat.reduceAdd]
          rw [e1, mf.2.1 23 (by omega) (by omega), v435]
          exact g7
      refine ⟨-1, V4, J, z, U5, K', z, ?_, ?_, GIU, F, Z, by omega, by omega⟩
      · rw [hV4]
        simp (disch := first | decide | omega | (simp (disch := first | decide | omega) only [sv_s, sv_o, ur_s, ur_e, ur_o]; omega)) only [↓reduceIte, iv_add, iv_sub, iv_mul, iv_neg, iv_ltT, iv_ltF, iv_leT, iv_leF, iv_eqT, iv_eqF, iv_div, iv_mod, ↓bnI_s, ↓bnV_s, ↓bnJ_s, ↓bnR_s, rt_e, rt_0, rt_bz, sv_s, sv_o, ur_s, ur_e, ur_o, bz_T, bz_F, nat_eqF, Nat.reduceAdd, ↓q_X_text, ↓gR_8_0 F, ↓gI_9_11 F, ↓gR_8_5 F, ↓gR_8_4 F, ↓pI_419_1 F, ↓gd_8 F, il_0, il_1, il_2, il_4, il_5, il_8, il_10, il_11, il_26, t11, a1]
      · rw [hU5]
        simp (disch := first | decide | omega | (simp (disch := first | decide | omega) only [sv_s, sv_o, ur_s, ur_e, ur_o]; omega)) only [↓reduceIte, iv_add, iv_sub, iv_mul, iv_neg, iv_ltT, iv_ltF, iv_leT, iv_leF, iv_eqT, iv_eqF, iv_div, iv_mod, ↓bnI_s, ↓bnV_s, ↓bnJ_s, ↓bnR_s, rt_e, rt_0, rt_bz, sv_s, sv_o, ur_s, ur_e, ur_o, bz_T, bz_F, nat_eqF, Nat.reduceAdd, ↓q_M_text, ↓q_M_text_36, ↓gR_435_0 F, ↓gI_435_5 F, ↓gI_435_8 F, ↓pI_435_5 F, ↓lI_436 F, ↓lI_437 F, ↓lI_438 F, ↓lI_439 F, ↓lI_440 F, ↓lI_441 F, ↓lI_443 F, ↓lI_444 F, ↓lI_445 F, ↓lI_446 F, ↓lI_447 F, ↓lI_448 F, ↓lI_449 F, ↓lI_450 F, ↓gd_435 F, ↓pI_435_6 F, ↓pI_435_4 F, ↓sI_436 F, ↓sI_437 F, ↓sI_438 F, ↓sI_439 F, ↓sI_440 F, ↓sI_441 F, ↓sI_443 F, ↓sI_444 F, ↓sI_445 F, ↓sI_446 F, ↓sI_447 F, ↓sI_448 F, ↓sI_449 F, ↓sI_450 F, il_0, il_1, il_4, il_5, il_6, il_8, il_11, il_27, il_36, v436, hi0, m1, m2]
end
