/-! one LOOSED -/
section
variable {A A' : Int → Int} {V V' J U : Vm} {z : Zz} {t : Nat} {w : Int}
theorem RW.u {B : Int → Int} {k x : Int} (h : RW w B U A) (hk : ¬ (1425 ≤ k ∧ k < 1450)) : RW w B (sv U 436 k x) (ur A k x) := ⟨fun j hj => by
  by_cases q : j = k
  · subst q; simp (disch := first | decide | omega | (simp (disch := first | decide | omega) only [sv_s, sv_o, ur_s, ur_e, ur_o]; omega)) only [↓reduceIte, iv_add, iv_sub, iv_mul, iv_neg, iv_ltT, iv_ltF, iv_leT, iv_leF, iv_eqT, iv_eqF, iv_div, iv_mod, ↓bnI_s, ↓bnV_s, ↓bnJ_s, ↓bnR_s, rt_e, rt_0, rt_bz, sv_s, sv_o, ur_s, ur_e, ur_o, bz_T, bz_F, nat_eqF, Nat.reduceAdd]
  · rw [ur_o q]; simp (disch := first | decide | omega | (simp (disch := first | decide | omega) only [sv_s, sv_o, ur_s, ur_e, ur_o]; omega)) only [↓reduceIte, iv_add, iv_sub, iv_mul, iv_neg, iv_ltT, iv_ltF, iv_leT, iv_leF, iv_eqT, iv_eqF, iv_div, iv_mod, ↓bnI_s, ↓bnV_s, ↓bnJ_s, ↓bnR_s, rt_e, rt_0, rt_bz, sv_s, sv_o, ur_s, ur_e, ur_o, bz_T, bz_F, nat_eqF, Nat.reduceAdd, h.1 j hj], fun w0 j j0 j1 => by simp (disch := first | decide | omega | (simp (disch := first | decide | omega) only [sv_s, sv_o, ur_s, ur_e, ur_o]; omega)) only [↓reduceIte, iv_add, iv_sub, iv_mul, iv_neg, iv_ltT, iv_ltF, iv_leT, iv_leF, iv_eqT, iv_eqF, iv_div, iv_mod, ↓bnI_s, ↓bnV_s, ↓bnJ_s, ↓bnR_s, rt_e, rt_0, rt_bz, sv_s, sv_o, ur_s, ur_e, ur_o, bz_T, bz_F, nat_eqF, Nat.reduceAdd, h.2 w0 j j0 j1]⟩
theorem RW.fr {B : Int → Int} (h : RW w B U A) (e : V 436 = U 436) : RW w B V A := by unfold RW; rw [e]; exact h
/-- one kept count changes -/
theorem Kn_kept (h : Kn V t A) {k x : Int} (hk : 0 ≤ k ∧ k < A 0) (hx : 0 ≤ x ∧ x ≤ 99) : Kn (sv V (t + 2) k x) t (ur A (11 + k) x) := by
  have n2 := h.2.1
  refine Kn_t h (by simp (disch := first | decide | omega | (simp (disch := first | decide | omega) only [sv_s, sv_o, ur_s, ur_e, ur_o]; omega)) only [↓reduceIte, iv_add, iv_sub, iv_mul, iv_neg, iv_ltT, iv_ltF, iv_leT, iv_leF, iv_eqT, iv_eqF, iv_div, iv_mod, ↓bnI_s, ↓bnV_s, ↓bnJ_s, ↓bnR_s, rt_e, rt_0, rt_bz, sv_s, sv_o, ur_s, ur_e, ur_o, bz_T, bz_F, nat_eqF, Nat.reduceAdd]) (by simp (disch := first | decide | omega | (simp (disch := first | decide | omega) only [sv_s, sv_o, ur_s, ur_e, ur_o]; omega)) only [↓reduceIte, iv_add, iv_sub, iv_mul, iv_neg, iv_ltT, iv_ltF, iv_leT, iv_leF, iv_eqT, iv_eqF, iv_div, iv_mod, ↓bnI_s, ↓bnV_s, ↓bnJ_s, ↓bnR_s, rt_e, rt_0, rt_bz, sv_s, sv_o, ur_s, ur_e, ur_o, bz_T, bz_F, nat_eqF, Nat.reduceAdd]) (ur_o (by omega)) (fun j j0 j1 => ur_o (by omega)) (Tr_kept h.2.2.2 n2.2 hk hx ?_ ?_ ?_ ?_ ?_)
  · simp (disch := first | decide | omega | (simp (disch := first | decide | omega) only [sv_s, sv_o, ur_s, ur_e, ur_o]; omega)) only [↓reduceIte, iv_add, iv_sub, iv_mul, iv_neg, iv_ltT, iv_ltF, iv_leT, iv_leF, iv_eqT, iv_eqF, iv_div, iv_mod, ↓bnI_s, ↓bnV_s, ↓bnJ_s, ↓bnR_s, rt_e, rt_0, rt_bz, sv_s, sv_o, ur_s, ur_e, ur_o, bz_T, bz_F, nat_eqF, Nat.reduceAdd]
  · simp (disch := first | decide | omega | (simp (disch := first | decide | omega) only [sv_s, sv_o, ur_s, ur_e, ur_o]; omega)) only [↓reduceIte, iv_add, iv_sub, iv_mul, iv_neg, iv_ltT, iv_ltF, iv_leT, iv_leF, iv_eqT, iv_eqF, iv_div, iv_mod, ↓bnI_s, ↓bnV_s, ↓bnJ_s, ↓bnR_s, rt_e, rt_0, rt_bz, sv_s, sv_o, ur_s, ur_e, ur_o, bz_T, bz_F, nat_eqF, Nat.reduceAdd]
  · simp (disch := first | decide | omega | (simp (disch := first | decide | omega) only [sv_s, sv_o, ur_s, ur_e, ur_o]; omega)) only [↓reduceIte, iv_add, iv_sub, iv_mul, iv_neg, iv_ltT, iv_ltF, iv_leT, iv_leF, iv_eqT, iv_eqF, iv_div, iv_mod, ↓bnI_s, ↓bnV_s, ↓bnJ_s, ↓bnR_s, rt_e, rt_0, rt_bz, sv_s, sv_o, ur_s, ur_e, ur_o, bz_T, bz_F, nat_eqF, Nat.reduceAdd]
  · simp (disch := first | decide | omega | (simp (disch := first | decide | omega) only [sv_s, sv_o, ur_s, ur_e, ur_o]; omega)) only [↓reduceIte, iv_add, iv_sub, iv_mul, iv_neg, iv_ltT, iv_ltF, iv_leT, iv_leF, iv_eqT, iv_eqF, iv_div, iv_mod, ↓bnI_s, ↓bnV_s, ↓bnJ_s, ↓bnR_s, rt_e, rt_0, rt_bz, sv_s, sv_o, ur_s, ur_e, ur_o, bz_T, bz_F, nat_eqF, Nat.reduceAdd]
  · simp (disch := first | decide | omega | (simp (disch := first | decide | omega) only [sv_s, sv_o, ur_s, ur_e, ur_o]; omega)) only [↓reduceIte, iv_add, iv_sub, iv_mul, iv_neg, iv_ltT, iv_ltF, iv_leT, iv_leF, iv_eqT, iv_eqF, iv_div, iv_mod, ↓bnI_s, ↓bnV_s, ↓bnJ_s, ↓bnR_s, rt_e, rt_0, rt_bz, sv_s, sv_o, ur_s, ur_e, ur_o, bz_T, bz_F, nat_eqF, Nat.reduceAdd]
theorem frT_kept {k x : Int} : frT t V (sv V (t + 2) k x) := ⟨fun a h1 h2 => by simp (disch := first | decide | omega | (simp (disch := first | decide | omega) only [sv_s, sv_o, ur_s, ur_e, ur_o]; omega)) only [↓reduceIte, iv_add, iv_sub, iv_mul, iv_neg, iv_ltT, iv_ltF, iv_leT, iv_leF, iv_eqT, iv_eqF, iv_div, iv_mod, ↓bnI_s, ↓bnV_s, ↓bnJ_s, ↓bnR_s, rt_e, rt_0, rt_bz, sv_s, sv_o, ur_s, ur_e, ur_o, bz_T, bz_F, nat_eqF, Nat.reduceAdd], by simp (disch := first | decide | omega | (simp (disch := first | decide | omega) only [sv_s, sv_o, ur_s, ur_e, ur_o]; omega)) only [↓reduceIte, iv_add, iv_sub, iv_mul, iv_neg, iv_ltT, iv_ltF, iv_leT, iv_leF, iv_eqT, iv_eqF, iv_div, iv_mod, ↓bnI_s, ↓bnV_s, ↓bnJ_s, ↓bnR_s, rt_e, rt_0, rt_bz, sv_s, sv_o, ur_s, ur_e, ur_o, bz_T, bz_F, nat_eqF, Nat.reduceAdd], by simp (disch := first | decide | omega | (simp (disch := first | decide | omega) only [sv_s, sv_o, ur_s, ur_e, ur_o]; omega)) only [↓reduceIte, iv_add, iv_sub, iv_mul, iv_neg, iv_ltT, iv_ltF, iv_leT, iv_leF, iv_eqT, iv_eqF, iv_div, iv_mod, ↓bnI_s, ↓bnV_s, ↓bnJ_s, ↓bnR_s, rt_e, rt_0, rt_bz, sv_s, sv_o, ur_s, ur_e, ur_o, bz_T, bz_F, nat_eqF, Nat.reduceAdd]⟩
theorem rfP_kept {k x : Int} (hk : 0 ≤ k ∧ k < 6) : rfP A (ur A (11 + k) x) := fun j hj => ur_o (by omega)
theorem y_walk (F : Fix z) (T : Tab z t) (h : Kn V t A) {k : Int} (hk : 0 ≤ k ∧ k < A 0) : ∀ (m : Nat) (f th : Int), 1 ≤ f → f + m = A 0 → (0 ≤ th ∧ th < 64) → ∃ A' V' th' st, rX m_Table_letLoose m_Table_letLoose 34 [.ref t, .int (iv k), .int (iv th), .int (iv (-1)), .int (iv f), dd] [] (em V J z) = rX m_Table_letLoose m_Table_letLoose 95 [.ref t, .int (iv k), .int (iv th'), .int (iv st), dd, dd] [] (em V' J z) ∧ (0 ≤ th' ∧ th' < 64) ∧ (-1 ≤ st ∧ st < 6) ∧ st ≠ k ∧ Kn V' t A' ∧ frT t V V' ∧ rfP A A' ∧ (A' 7 = A 7 ∧ A' 9 = A 9) ∧ ∀ B U K, RW w B U A → ∃ U', rX m_M_looseNow m_M_looseNow 21 [.ref 435, .int (iv k), .int (iv th), .int (iv (fur A k f))] [] (em U K z) = rX m_M_looseNow m_M_looseNow 64 [.ref 435, .int (iv k), .int (iv th'), .int (iv (if st = -1 then k else st))] [] (em U' K z) ∧ RW w B U' A' ∧ ∀ a, a ≠ 436 → U' a = U a := by
  have p := h.ps
  obtain ⟨n1, n2, n3, R⟩ := h
  have hk6 : 0 ≤ k ∧ k < 6 := by omega
  intro m
  induction m with
  | zero =>
    intro f th f1 hf h0
    have hf : f = A 0 := by omega
    subst hf
    refine ⟨A, V, th, -1, ?_, h0, by omega, by omega, ⟨n1, n2, n3, R⟩, frT.rfl_, rfP.rfl_, ⟨rfl, rfl⟩, fun B U K hU => ⟨U, ?_, hU, fun _ _ => rfl⟩⟩
    · (rw [q_Table_letLoose_34]; simp (disch := first | decide | omega | (simp (disch := first | decide | omega) only [sv_s, sv_o, ur_s, ur_e, ur_o]; omega)) only [↓reduceIte, iv_add, iv_sub, iv_mul, iv_neg, iv_ltT, iv_ltF, iv_leT, iv_leF, iv_eqT, iv_eqF, iv_div, iv_mod, ↓bnI_s, ↓bnV_s, ↓bnJ_s, ↓bnR_s, rt_e, rt_0, rt_bz, sv_s, sv_o, ur_s, ur_e, ur_o, bz_T, bz_F, nat_eqF, Nat.reduceAdd, ↓gT_5 T, ↓rT_1 T, il_0, il_1, il_5, il_7, il_31, il_34, il_95, n1])
    · rw [fur_n p hk, if_pos rfl]
      (rw [q_M_looseNow_21]; simp (disch := first | decide | omega | (simp (disch := first | decide | omega) only [sv_s, sv_o, ur_s, ur_e, ur_o]; omega)) only [↓reduceIte, iv_add, iv_sub, iv_mul, iv_neg, iv_ltT, iv_ltF, iv_leT, iv_leF, iv_eqT, iv_eqF, iv_div, iv_mod, ↓bnI_s, ↓bnV_s, ↓bnJ_s, ↓bnR_s, rt_e, rt_0, rt_bz, sv_s, sv_o, ur_s, ur_e, ur_o, bz_T, bz_F, nat_eqF, Nat.reduceAdd, ↓gR_435_0 F, ↓lI_436 F, ↓lI_437 F, ↓lI_438 F, ↓lI_439 F, ↓lI_440 F, ↓lI_441 F, ↓lI_443 F, ↓lI_444 F, ↓lI_445 F, ↓lI_446 F, ↓lI_447 F, ↓lI_448 F, ↓lI_449 F, ↓lI_450 F, il_0, il_1, il_11, il_21, il_31, il_64])
  | succ m ih =>
    intro f th f1 hf h0
    have hn := p.fr_ hk (b := f) (by omega)
    have ne := fur_ne p hk (f := f) ⟨f1, by omega⟩
    have e1 := y_whoFrom (V := V) (J := J) T n1 n2 R hk (f := f) (by omega)
    have nx := fur_1 p hk (f := f) (by omega)
    obtain ⟨d1, d2, d3, d4, d5⟩ := R.1 _ hn.1 hn.2
    generalize hy : fur A k f = y at *
    have hy6 : 0 ≤ y ∧ y < 6 := by omega
    by_cases q : A (11 + y) = 0
    · obtain ⟨A', V', th', st, g1, g2, g3, g4, g5, g6, g7, g8, g9⟩ := ih (f + 1) (ox th y) (by omega) (by omega) (ox_r h0 hy6)
      refine ⟨A', V', th', st, ?_, g2, g3, g4, g5, g6, g7, g8, fun B U K hU => ?_⟩
      · rw [← g1]
        (rw [q_Table_letLoose_34]; simp (disch := first | decide | omega | (simp (disch := first | decide | omega) only [sv_s, sv_o, ur_s, ur_e, ur_o]; omega)) only [↓reduceIte, iv_add, iv_sub, iv_mul, iv_neg, iv_ltT, iv_ltF, iv_leT, iv_leF, iv_eqT, iv_eqF, iv_div, iv_mod, ↓bnI_s, ↓bnV_s, ↓bnJ_s, ↓bnR_s, rt_e, rt_0, rt_bz, sv_s, sv_o, ur_s, ur_e, ur_o, bz_T, bz_F, nat_eqF, Nat.reduceAdd, ↓gT_5 T, ↓rT_1 T, il_0, il_1, il_5, il_7, il_31, il_34, il_95, n1, e1, y_get T.s2 (by decide), rd_in, d1, q, ox_iv])
      · obtain ⟨U', k1, k2, k3⟩ := g9 B U K hU
        refine ⟨U', ?_, k2, k3⟩
        rw [← k1]
        have u0 : U 436 (11 + y) = 0 := (hU.1 (11 + y) (by omega)).trans q
        have ef := y_furtherA (V := U) (J := K) F p (hU.1 0 (by omega)) (fun j j0 j1 => hU.1 j (by omega)) hn (b := 1) (by omega)
        rw [nx] at ef
        (rw [q_M_looseNow_21]; simp (disch := first | decide | omega | (simp (disch := first | decide | omega) only [sv_s, sv_o, ur_s, ur_e, ur_o]; omega)) only [↓reduceIte, iv_add, iv_sub, iv_mul, iv_neg, iv_ltT, iv_ltF, iv_leT, iv_leF, iv_eqT, iv_eqF, iv_div, iv_mod, ↓bnI_s, ↓bnV_s, ↓bnJ_s, ↓bnR_s, rt_e, rt_0, rt_bz, sv_s, sv_o, ur_s, ur_e, ur_o, bz_T, bz_F, nat_eqF, Nat.reduceAdd, ↓gR_435_0 F, ↓lI_436 F, ↓lI_437 F, ↓lI_438 F, ↓lI_439 F, ↓lI_440 F, ↓lI_441 F, ↓lI_443 F, ↓lI_444 F, ↓lI_445 F, ↓lI_446 F, ↓lI_447 F, ↓lI_448 F, ↓lI_449 F, ↓lI_450 F, il_0, il_1, il_11, il_21, il_31, il_64, u0, ef, ox_iv])
    · have ko := y_keepOne (V := V) (J := J) T hy6 d1 d4
      obtain ⟨x, hx⟩ : ∃ x, x = min (A (11 + y) + 1) 99 := ⟨_, rfl⟩
      rw [← hx] at ko
      have x0 : 0 ≤ x ∧ x ≤ 99 := by omega
      refine ⟨ur A (11 + y) x, sv V (t + 2) y x, th, y, ?_, h0, by omega, ne, Kn_kept ⟨n1, n2, n3, R⟩ hn x0, frT_kept, rfP_kept hy6, ⟨ur_o (by omega), ur_o (by omega)⟩, fun B U K hU => ⟨sv U 436 (11 + y) x, ?_, hU.u (by omega), fun a ha => by simp (disch := first | decide | omega | (simp (disch := first | decide | omega) only [sv_s, sv_o, ur_s, ur_e, ur_o]; omega)) only [↓reduceIte, iv_add, iv_sub, iv_mul, iv_neg, iv_ltT, iv_ltF, iv_leT, iv_leF, iv_eqT, iv_eqF, iv_div, iv_mod, ↓bnI_s, ↓bnV_s, ↓bnJ_s, ↓bnR_s, rt_e, rt_0, rt_bz, sv_s, sv_o, ur_s, ur_e, ur_o, bz_T, bz_F, nat_eqF, Nat.reduceAdd]⟩⟩
      · have st1 : rX m_Table_letLoose m_Table_letLoose 34 [.ref t, .int (iv k), .int (iv th), .int (iv (-1)), .int (iv f), dd] [] (em V J z) = rX m_Table_letLoose m_Table_letLoose 34 [.ref t, .int (iv k), .int (iv th), .int (iv y), .int (iv (f + 1)), dd] [] (em (sv V (t + 2) y x) J z) := by
          (rw [q_Table_letLoose_34]; simp (disch := first | decide | omega | (simp (disch := first | decide | omega) only [sv_s, sv_o, ur_s, ur_e, ur_o]; omega)) only [↓reduceIte, iv_add, iv_sub, iv_mul, iv_neg, iv_ltT, iv_ltF, iv_leT, iv_leF, iv_eqT, iv_eqF, iv_div, iv_mod, ↓bnI_s, ↓bnV_s, ↓bnJ_s, ↓bnR_s, rt_e, rt_0, rt_bz, sv_s, sv_o, ur_s, ur_e, ur_o, bz_T, bz_F, nat_eqF, Nat.reduceAdd, ↓gT_5 T, ↓rT_1 T, il_0, il_1, il_5, il_7, il_31, il_34, il_95, n1, e1, y_get T.s2 (by decide), rd_in, d1, ko])
        have st2 : rX m_Table_letLoose m_Table_letLoose 34 [.ref t, .int (iv k), .int (iv th), .int (iv y), .int (iv (f + 1)), dd] [] (em (sv V (t + 2) y x) J z) = rX m_Table_letLoose m_Table_letLoose 95 [.ref t, .int (iv k), .int (iv th), .int (iv y), dd, dd] [] (em (sv V (t + 2) y x) J z) := by
          by_cases v : f + 1 < A 0
          · (rw [q_Table_letLoose_34]; simp (disch := first | decide | omega | (simp (disch := first | decide | omega) only [sv_s, sv_o, ur_s, ur_e, ur_o]; omega)) only [↓reduceIte, iv_add, iv_sub, iv_mul, iv_neg, iv_ltT, iv_ltF, iv_leT, iv_leF, iv_eqT, iv_eqF, iv_div, iv_mod, ↓bnI_s, ↓bnV_s, ↓bnJ_s, ↓bnR_s, rt_e, rt_0, rt_bz, sv_s, sv_o, ur_s, ur_e, ur_o, bz_T, bz_F, nat_eqF, Nat.reduceAdd, ↓gT_5 T, ↓rT_1 T, il_0, il_1, il_5, il_7, il_31, il_34, il_95, n1])
          · (rw [q_Table_letLoose_34]; simp (disch := first | decide | omega | (simp (disch := first | decide | omega) only [sv_s, sv_o, ur_s, ur_e, ur_o]; omega)) only [↓reduceIte, iv_add, iv_sub, iv_mul, iv_neg, iv_ltT, iv_ltF, iv_leT, iv_leF, iv_eqT, iv_eqF, iv_div, iv_mod, ↓bnI_s, ↓bnV_s, ↓bnJ_s, ↓bnR_s, rt_e, rt_0, rt_bz, sv_s, sv_o, ur_s, ur_e, ur_o, bz_T, bz_F, nat_eqF, Nat.reduceAdd, ↓gT_5 T, ↓rT_1 T, il_0, il_1, il_5, il_7, il_31, il_34, il_95, n1])
        exact st1.trans st2
      · have u0 : U 436 (11 + y) = A (11 + y) := hU.1 (11 + y) (by omega)
        have mo := y_more (V := U) (J := K) F hy6 u0 d4
        rw [← hx] at mo
        rw [if_neg (by omega)]
        (rw [q_M_looseNow_21]; simp (disch := first | decide | omega | (simp (disch := first | decide | omega) only [sv_s, sv_o, ur_s, ur_e, ur_o]; omega)) only [↓reduceIte, iv_add, iv_sub, iv_mul, iv_neg, iv_ltT, iv_ltF, iv_leT, iv_leF, iv_eqT, iv_eqF, iv_div, iv_mod, ↓bnI_s, ↓bnV_s, ↓bnJ_s, ↓bnR_s, rt_e, rt_0, rt_bz, sv_s, sv_o, ur_s, ur_e, ur_o, bz_T, bz_F, nat_eqF, Nat.reduceAdd, ↓gR_435_0 F, ↓lI_436 F, ↓lI_437 F, ↓lI_438 F, ↓lI_439 F, ↓lI_440 F, ↓lI_441 F, ↓lI_443 F, ↓lI_444 F, ↓lI_445 F, ↓lI_446 F, ↓lI_447 F, ↓lI_448 F, ↓lI_449 F, ↓lI_450 F, il_0, il_1, il_11, il_21, il_31, il_64, u0, mo])
theorem y_loose (F : Fix z) (T : Tab z t) (h : Kn V t A) {k : Int} (hk : 0 ≤ k ∧ k < A 0) (hw : w = 0 ∨ w = 1) : ∃ A' V', cA m_Table_letLoose [.ref t, .int (iv k)] (em V J z) = some (.null, em V' J z) ∧ Kn V' t A' ∧ frT t V V' ∧ rfP A A' ∧ A' 7 = A 7 ∧ ∀ B U K, RW w B U A → U 435 23 = w → ∃ U', cA m_M_looseNow [.ref 435, .int (iv k)] (em U K z) = some (.null, em U' K z) ∧ RW w B U' A' ∧ (∀ a, a ≠ 436 → a ≠ 435 → U' a = U a) ∧ U' 435 = ur (U 435) 24 (U 435 24 + 1) := by
  have p := h.ps
  have n1 := h.1
  have n2 := h.2.1
  have hk6 : 0 ≤ k ∧ k < 6 := by omega
  obtain ⟨d1, d2, d3, d4, d5⟩ := h.2.2.2.1 k hk.1 hk.2
  obtain ⟨x, hx⟩ : ∃ x, x = A (11 + k) / 2 := ⟨_, rfl⟩
  have x0 : 0 ≤ x ∧ x ≤ 99 := by omega
  have h1 := Kn_kept h hk x0
  have z0 : ur A (11 + k) x 0 = A 0 := ur_o (by omega)
  obtain ⟨f, hf⟩ : ∃ f, f = max 1 (A 0 / 2) := ⟨_, rfl⟩
  have ff : fur A k (A 0 / 2) = fur A k f := by
    by_cases q : A 0 = 1
    · have e1 : f = A 0 := by omega
      have e0 : A 0 / 2 = 0 := by omega
      rw [e1, e0, fur_0 p hk, fur_n p hk]
    · rw [hf, Int.max_eq_right (by omega)]
  obtain ⟨A2, V2, th, st, g1, g2, g3, g4, g5, g6, g7, g8, g9⟩ := y_walk (J := J) (w := w) F T h1 (k := k) (by rw [z0]; exact hk) (A 0 - f).toNat f 0 (by omega) (by rw [z0]; omega) (by omega)
  have fc : fur (ur A (11 + k) x) k f = fur A k f := fur_c (A := A) (A' := ur A (11 + k) x) (fun j j0 j1 => ur_o (by omega)) z0 hk6
  rw [fc] at g9
  obtain ⟨m1, m2, m3, m4⟩ := g5
  have a0 : A2 0 = A 0 := (g7 0 (by omega)).trans z0
  have a7 : A2 7 = A 7 := g8.1.trans (ur_o (by omega))
  have t7 := m4.2.2.2.1
  obtain ⟨u, hu⟩ : ∃ u, u = ((A2 7 * 8 + k) * 64 + th) * 8 + st + 1 := ⟨_, rfl⟩
  obtain ⟨v, hv⟩ : ∃ v, v = ((A2 7 * 6 + k) * 64 + th) * 7 + st + 1 := ⟨_, rfl⟩
  have bk : Bk u v := ⟨A2 7, k, th, st, t7.2, hk6, g2, g3, hu, hv⟩
  obtain ⟨V3, w1, w2, w3, w4⟩ := y_write (J := J) T bk m4 m2.2
  have t9 := m4.2.2.2.2.2.1.2
  refine ⟨wrA A2 v, V3, ?_, ?_, ?_, ?_, ?_, fun B U K hU h23 => ?_⟩
  · have e95 : rX m_Table_letLoose m_Table_letLoose 95 [.ref t, .int (iv k), .int (iv th), .int (iv st), dd, dd] [] (em V2 J z) = some (.null, em V3 J z) := by
      (rw [q_Table_letLoose_95]; simp (disch := first | decide | omega | (simp (disch := first | decide | omega) only [sv_s, sv_o, ur_s, ur_e, ur_o]; omega)) only [↓reduceIte, iv_add, iv_sub, iv_mul, iv_neg, iv_ltT, iv_ltF, iv_leT, iv_leF, iv_eqT, iv_eqF, iv_div, iv_mod, ↓bnI_s, ↓bnV_s, ↓bnJ_s, ↓bnR_s, rt_e, rt_0, rt_bz, sv_s, sv_o, ur_s, ur_e, ur_o, bz_T, bz_F, nat_eqF, Nat.reduceAdd, ↓gT_7 T, il_0, il_1, il_7, il_8, il_64, il_95, t7.1, ← hu, w1])
    have e34 : cA m_Table_letLoose [.ref t, .int (iv k)] (em V J z) = rX m_Table_letLoose m_Table_letLoose 34 [.ref t, .int (iv k), .int (iv 0), .int (iv (-1)), .int (iv f), dd] [] (em (sv V (t + 2) k x) J z) := by
      simp (disch := first | decide | omega | (simp (disch := first | decide | omega) only [sv_s, sv_o, ur_s, ur_e, ur_o]; omega)) only [↓reduceIte, iv_add, iv_sub, iv_mul, iv_neg, iv_ltT, iv_ltF, iv_leT, iv_leF, iv_eqT, iv_eqF, iv_div, iv_mod, ↓bnI_s, ↓bnV_s, ↓bnJ_s, ↓bnR_s, rt_e, rt_0, rt_bz, sv_s, sv_o, ur_s, ur_e, ur_o, bz_T, bz_F, nat_eqF, Nat.reduceAdd, ↓q_Table_letLoose, ↓rT_1 T, ↓gT_5 T, ↓gdT T, il_0, il_1, il_2, il_5, il_7, il_23, il_34, y_get T.s2 (by decide), y_put T.s2 (by decide), rd_in, pt_in, d1, ← hx, n1, y_max, ← hf]
    exact e34.trans (g1.trans e95)
  · refine Kn_t ⟨m1, m2, m3, m4⟩ (w4 5 (by decide)) (w3 _ (by omega) (by omega)) (wrA_o t9 (by omega) (by omega)) (fun j j0 j1 => wrA_o t9 (by omega) (by omega)) w2
  · refine (frT_kept (k := k) (x := x)).tr (g6.tr ⟨fun a h1 h2 => w3 a (by omega) (by omega), w4 5 (by decide), w3 _ (by omega) (by omega)⟩)
  · exact (rfP_kept hk6).tr (g7.tr fun j hj => wrA_o t9 (by omega) (by omega))
  · rw [wrA_o t9 (by omega) (by omega)]; exact a7
  · have u0 : U 436 (11 + k) = A (11 + k) := hU.1 (11 + k) (by omega)
    obtain ⟨U2, k1, k2, k3⟩ := g9 B (sv U 436 (11 + k) x) K (hU.u (by omega))
    have R2 : RW w B (sv U2 435 24 (U2 435 24 + 1)) A2 := k2.fr (by simp (disch := first | decide | omega | (simp (disch := first | decide | omega) only [sv_s, sv_o, ur_s, ur_e, ur_o]; omega)) only [↓reduceIte, iv_add, iv_sub, iv_mul, iv_neg, iv_ltT, iv_ltF, iv_leT, iv_leF, iv_eqT, iv_eqF, iv_div, iv_mod, ↓bnI_s, ↓bnV_s, ↓bnJ_s, ↓bnR_s, rt_e, rt_0, rt_bz, sv_s, sv_o, ur_s, ur_e, ur_o, bz_T, bz_F, nat_eqF, Nat.reduceAdd])
    obtain ⟨U3, l1, l2, l3⟩ := y_M_write (V := sv U2 435 24 (U2 435 24 + 1)) (J := K) F (w := w) (a := k) (b := th) (c := st) (v := v) hw (by simp (disch := first | decide | omega | (simp (disch := first | decide | omega) only [sv_s, sv_o, ur_s, ur_e, ur_o]; omega)) only [↓reduceIte, iv_add, iv_sub, iv_mul, iv_neg, iv_ltT, iv_ltF, iv_leT, iv_leF, iv_eqT, iv_eqF, iv_div, iv_mod, ↓bnI_s, ↓bnV_s, ↓bnJ_s, ↓bnR_s, rt_e, rt_0, rt_bz, sv_s, sv_o, ur_s, ur_e, ur_o, bz_T, bz_F, nat_eqF, Nat.reduceAdd, k3 435 (by decide), h23]) R2 t9 hv
    refine ⟨U3, ?_, l3, fun a h1 h2 => ?_, ?_⟩
    · have e64 : rX m_M_looseNow m_M_looseNow 64 [.ref 435, .int (iv k), .int (iv th), .int (iv (if st = -1 then k else st))] [] (em U2 K z) = some (.null, em U3 K z) := by
        by_cases q : st = -1
        · subst q
          rw [if_pos rfl]
          (rw [q_M_looseNow_64]; simp (disch := first | decide | omega | (simp (disch := first | decide | omega) only [sv_s, sv_o, ur_s, ur_e, ur_o]; omega)) only [↓reduceIte, iv_add, iv_sub, iv_mul, iv_neg, iv_ltT, iv_ltF, iv_leT, iv_leF, iv_eqT, iv_eqF, iv_div, iv_mod, ↓bnI_s, ↓bnV_s, ↓bnJ_s, ↓bnR_s, rt_e, rt_0, rt_bz, sv_s, sv_o, ur_s, ur_e, ur_o, bz_T, bz_F, nat_eqF, Nat.reduceAdd, ↓gI_435_24 F, ↓pI_435_24 F, il_0, il_1, il_11, il_24, il_64, l1])
        · rw [if_neg q]
          (rw [q_M_looseNow_64]; simp (disch := first | decide | omega | (simp (disch := first | decide | omega) only [sv_s, sv_o, ur_s, ur_e, ur_o]; omega)) only [↓reduceIte, iv_add, iv_sub, iv_mul, iv_neg, iv_ltT, iv_ltF, iv_leT, iv_leF, iv_eqT, iv_eqF, iv_div, iv_mod, ↓bnI_s, ↓bnV_s, ↓bnJ_s, ↓bnR_s, rt_e, rt_0, rt_bz, sv_s, sv_o, ur_s, ur_e, ur_o, bz_T, bz_F, nat_eqF, Nat.reduceAdd, ↓gI_435_24 F, ↓pI_435_24 F, il_0, il_1, il_11, il_24, il_64, l1])
      have e21 : cA m_M_looseNow [.ref 435, .int (iv k)] (em U K z) = rX m_M_looseNow m_M_looseNow 21 [.ref 435, .int (iv k), .int (iv 0), .int (iv (fur A k f))] [] (em (sv U 436 (11 + k) x) K z) := by
        have ea := y_acrossA (V := sv U 436 (11 + k) x) (J := K) (A := A) F p (by simp (disch := first | decide | omega | (simp (disch := first | decide | omega) only [sv_s, sv_o, ur_s, ur_e, ur_o]; omega)) only [↓reduceIte, iv_add, iv_sub, iv_mul, iv_neg, iv_ltT, iv_ltF, iv_leT, iv_leF, iv_eqT, iv_eqF, iv_div, iv_mod, ↓bnI_s, ↓bnV_s, ↓bnJ_s, ↓bnR_s, rt_e, rt_0, rt_bz, sv_s, sv_o, ur_s, ur_e, ur_o, bz_T, bz_F, nat_eqF, Nat.reduceAdd, hU.1 0 (by omega)]) (fun j j0 j1 => by simp (disch := first | decide | omega | (simp (disch := first | decide | omega) only [sv_s, sv_o, ur_s, ur_e, ur_o]; omega)) only [↓reduceIte, iv_add, iv_sub, iv_mul, iv_neg, iv_ltT, iv_ltF, iv_leT, iv_leF, iv_eqT, iv_eqF, iv_div, iv_mod, ↓bnI_s, ↓bnV_s, ↓bnJ_s, ↓bnR_s, rt_e, rt_0, rt_bz, sv_s, sv_o, ur_s, ur_e, ur_o, bz_T, bz_F, nat_eqF, Nat.reduceAdd, hU.1 j (by omega)]) hk
        rw [ff] at ea
        simp (disch := first | decide | omega | (simp (disch := first | decide | omega) only [sv_s, sv_o, ur_s, ur_e, ur_o]; omega)) only [↓reduceIte, iv_add, iv_sub, iv_mul, iv_neg, iv_ltT, iv_ltF, iv_leT, iv_leF, iv_eqT, iv_eqF, iv_div, iv_mod, ↓bnI_s, ↓bnV_s, ↓bnJ_s, ↓bnR_s, rt_e, rt_0, rt_bz, sv_s, sv_o, ur_s, ur_e, ur_o, bz_T, bz_F, nat_eqF, Nat.reduceAdd, ↓q_M_looseNow, ↓gR_435_0 F, ↓lI_436 F, ↓lI_437 F, ↓lI_438 F, ↓lI_439 F, ↓lI_440 F, ↓lI_441 F, ↓lI_443 F, ↓lI_444 F, ↓lI_445 F, ↓lI_446 F, ↓lI_447 F, ↓lI_448 F, ↓lI_449 F, ↓lI_450 F, ↓sI_436 F, ↓sI_437 F, ↓sI_438 F, ↓sI_439 F, ↓sI_440 F, ↓sI_441 F, ↓sI_443 F, ↓sI_444 F, ↓sI_445 F, ↓sI_446 F, ↓sI_447 F, ↓sI_448 F, ↓sI_449 F, ↓sI_450 F, ↓gd_435 F, il_0, il_1, il_2, il_11, il_21, il_27, u0, ← hx, ea]
      exact e21.trans (k1.trans e64)
    · rw [l2 a h1]
      simp (disch := first | decide | omega | (simp (disch := first | decide | omega) only [sv_s, sv_o, ur_s, ur_e, ur_o]; omega)) only [↓reduceIte, iv_add, iv_sub, iv_mul, iv_neg, iv_ltT, iv_ltF, iv_leT, iv_leF, iv_eqT, iv_eqF, iv_div, iv_mod, ↓bnI_s, ↓bnV_s, ↓bnJ_s, ↓bnR_s, rt_e, rt_0, rt_bz, sv_s, sv_o, ur_s, ur_e, ur_o, bz_T, bz_F, nat_eqF, Nat.reduceAdd, k3 a h1]
    · rw [l2 435 (by decide)]
      simp (disch := first | decide | omega | (simp (disch := first | decide | omega) only [sv_s, sv_o, ur_s, ur_e, ur_o]; omega)) only [↓reduceIte, iv_add, iv_sub, iv_mul, iv_neg, iv_ltT, iv_ltF, iv_leT, iv_leF, iv_eqT, iv_eqF, iv_div, iv_mod, ↓bnI_s, ↓bnV_s, ↓bnJ_s, ↓bnR_s, rt_e, rt_0, rt_bz, sv_s, sv_o, ur_s, ur_e, ur_o, bz_T, bz_F, nat_eqF, Nat.reduceAdd, k3 435 (by decide)]
end
