/-! THE RULING LAW -/
section
variable {V V0 J U K : Vm} {z : Zz} {I0 : Nat → Nat → Int32}
theorem y_textOf1 (F : Fix z) {i : Int} (h : 0 ≤ i ∧ i < V 9 11 ∧ V 9 11 ≤ 4) : cA m_House_textOf [.ref 9, .int (iv i)] (em V J z) = some (.ref (z.1 17 i.toNat), em V J z) := by
  have s17 : z.2.1 17 = (6, 4) := hS8 F (Or.inl rfl)
  have l0 : (0 : Int32) ≤ iv i := of_eq_true (iv_leT (a := 0) (b := i) (by omega))
  have l1 : iv i < iv (V 9 11) := of_eq_true (iv_ltT (a := i) (b := V 9 11) (by omega))
  have l4 : iv i < iv ((4 : Nat) : Int) := of_eq_true (iv_ltT (a := i) (b := ((4 : Nat) : Int)) (by omega))
  rw [q_House_textOf, gd_9 F, if_pos l0, gI_9_11 F, if_pos l1, gR_9_2 F, alN_e s17 rfl, if_pos l4, gR_9_2 F, ldR_e s17 rfl (by omega) (by decide)]
theorem y_textOf0 (F : Fix z) {i : Int} (hi : (-2147483648 ≤ i ∧ i < 2147483648)) (hn : 0 ≤ V 9 11 ∧ V 9 11 ≤ 4) (h : ¬ (0 ≤ i ∧ i < V 9 11)) : cA m_House_textOf [.ref 9, .int (iv i)] (em V J z) = some (.ref 0, em V J z) := by
  rw [q_House_textOf, gd_9 F]
  by_cases q : 0 ≤ i
  · have l0 : (0 : Int32) ≤ iv i := of_eq_true (iv_leT (a := 0) (b := i) (by omega))
    have l1 : ¬ iv i < iv (V 9 11) := of_eq_false (iv_ltF (a := i) (b := V 9 11) (by omega))
    rw [if_pos l0, gI_9_11 F, if_neg l1]
  · have l0 : ¬ (0 : Int32) ≤ iv i := of_eq_false (iv_leF (a := 0) (b := i) (by omega))
    rw [if_neg l0]
theorem y_says_no (F : Fix z) {s w top : Int32} : cA m_M_says [.ref 435, .int (iv (-1)), .int s, .int w, .int top] (em U K z) = some (.int w, em U K z) := by
  have l : ¬ (0 : Int32) ≤ iv (-1) := of_eq_false (iv_leF (a := 0) (b := -1) (by omega))
  rw [q_M_says, gd_435 F, q_M_says_3, if_neg l]
theorem Lw_no (F : Fix z) : Lw z V0 0 (-1) (fun A k => A (23 + k)) (fun _ _ => 5) := by
  intro A k hex g0 g1
  obtain ⟨V1, t1, hK1⟩ := hex
  have tt := (hK1.2.2.1 k g0 g1).2.1
  have n2 := hK1.2.1
  refine ⟨by show 0 ≤ A (23 + k) ∧ A (23 + k) ≤ 10; omega, by show (0 : Int) ≤ 5 ∧ (5 : Int) ≤ 99; omega, fun V J t o T ht hK => ⟨⟨V, ?_, fun _ _ => rfl⟩, V, ?_, fun _ _ => rfl⟩, fun U K w B hU h8 => ⟨?_, fun h2 => ?_⟩⟩
  · have t0 := (hK.2.2.1 k g0 g1).1
    show cA m_Asker_reachesOf [.ref 417, .ref 0, .ref t, .int (iv k)] (em V J z) = some (.int (iv (A (23 + k))), em V J z)
    simp (disch := first | decide | omega | (simp (disch := first | decide | omega) only [sv_s, sv_o, ur_s, ur_e, ur_o]; omega)) only [↓reduceIte, iv_add, iv_sub, iv_mul, iv_neg, iv_ltT, iv_ltF, iv_leT, iv_leF, iv_eqT, iv_eqF, iv_div, iv_mod, ↓bnI_s, ↓bnV_s, ↓bnJ_s, ↓bnR_s, rt_e, rt_0, rt_bz, sv_s, sv_o, ur_s, ur_e, ur_o, bz_T, bz_F, nat_eqF, Nat.reduceAdd, ↓q_Asker_reachesOf, ↓rT_0 T, ↓gd_417 F, il_0, il_1, il_2, il_7, il_9, il_10, il_16, y_get T.s1, rd_in, t0]
  · show cA m_Asker_bearsOf [.ref 417, .ref 0, .ref t, .int (iv k)] (em V J z) = some (.int (iv 5), em V J z)
    simp (disch := first | decide | omega | (simp (disch := first | decide | omega) only [sv_s, sv_o, ur_s, ur_e, ur_o]; omega)) only [↓reduceIte, iv_add, iv_sub, iv_mul, iv_neg, iv_ltT, iv_ltF, iv_leT, iv_leF, iv_eqT, iv_eqF, iv_div, iv_mod, ↓bnI_s, ↓bnV_s, ↓bnJ_s, ↓bnR_s, rt_e, rt_0, rt_bz, sv_s, sv_o, ur_s, ur_e, ur_o, bz_T, bz_F, nat_eqF, Nat.reduceAdd, ↓q_Asker_bearsOf, ↓gd_417 F, il_0, il_1, il_3, il_5, il_9, il_16, il_99]
  · obtain ⟨U1, e1, e2, e3⟩ := y_M_name (K := K) F hK1 (fun j hj => hU.1 j (Or.inr hj)) ⟨g0, g1⟩
    have u6 : U1 436 (23 + k) = A (23 + k) := by rw [e2 436 (by decide)]; exact hU.1 _ (by omega)
    refine ⟨U1, K, ?_, fun a j s _ => by rw [e2 a (ns_ s).1], e2 436 (by decide), by rw [e2 435 (by decide)]⟩
    show cA m_M_reachesOf [.ref 435, .int (iv (-1)), .int (iv k)] (em U K z) = some (.int (iv (A (23 + k))), em U1 K z)
    have sn := fun s w top => y_says_no (U := U1) (K := K) F (s := s) (w := w) (top := top)
    simp (disch := first | decide | omega | (simp (disch := first | decide | omega) only [sv_s, sv_o, ur_s, ur_e, ur_o]; omega)) only [↓reduceIte, iv_add, iv_sub, iv_mul, iv_neg, iv_ltT, iv_ltF, iv_leT, iv_leF, iv_eqT, iv_eqF, iv_div, iv_mod, ↓bnI_s, ↓bnV_s, ↓bnJ_s, ↓bnR_s, rt_e, rt_0, rt_bz, sv_s, sv_o, ur_s, ur_e, ur_o, bz_T, bz_F, nat_eqF, Nat.reduceAdd, ↓q_M_reachesOf, ↓gR_435_0 F, ↓lI_436 F, ↓lI_437 F, ↓lI_438 F, ↓lI_439 F, ↓lI_440 F, ↓lI_441 F, ↓lI_443 F, ↓lI_444 F, ↓lI_445 F, ↓lI_446 F, ↓lI_447 F, ↓lI_448 F, ↓lI_449 F, ↓lI_450 F, ↓gd_435 F, il_0, il_1, il_10, il_11, il_23, il_27, e1, u6, sn]
  · obtain ⟨U1, e1, e2, e3⟩ := y_M_name (K := K) F hK1 (fun j hj => hU.1 j (Or.inr hj)) ⟨g0, g1⟩
    have u6 : U1 436 2 = -1 := by rw [e2 436 (by decide)]; exact (hU.1 2 (by omega)).trans h2
    refine ⟨U1, K, ?_, fun a j s _ => by rw [e2 a (ns_ s).1], e2 436 (by decide), by rw [e2 435 (by decide)]⟩
    show cA m_M_bearsOf [.ref 435, .int (iv k)] (em U K z) = some (.int (iv 5), em U1 K z)
    have sn := fun s w top => y_says_no (U := U1) (K := K) F (s := s) (w := w) (top := top)
    simp (disch := first | decide | omega | (simp (disch := first | decide | omega) only [sv_s, sv_o, ur_s, ur_e, ur_o]; omega)) only [↓reduceIte, iv_add, iv_sub, iv_mul, iv_neg, iv_ltT, iv_ltF, iv_leT, iv_leF, iv_eqT, iv_eqF, iv_div, iv_mod, ↓bnI_s, ↓bnV_s, ↓bnJ_s, ↓bnR_s, rt_e, rt_0, rt_bz, sv_s, sv_o, ur_s, ur_e, ur_o, bz_T, bz_F, nat_eqF, Nat.reduceAdd, ↓q_M_bearsOf, ↓gR_435_0 F, ↓lI_436 F, ↓lI_437 F, ↓lI_438 F, ↓lI_439 F, ↓lI_440 F, ↓lI_441 F, ↓lI_443 F, ↓lI_444 F, ↓lI_445 F, ↓lI_446 F, ↓lI_447 F, ↓lI_448 F, ↓lI_449 F, ↓lI_450 F, ↓gd_435 F, il_0, il_1, il_2, il_5, il_11, il_27, il_99, e1, u6, sn]
theorem Lc_of (F : Fix z) (g : GI TXR I0 V z) : ∃ q i rv bv, Lc z V q i rv bv := by
  obtain ⟨t1, t2, t3, t4, t5⟩ := g.1.2.2.2.2.2.2.2.2
  by_cases c : 0 ≤ V 436 2
  · obtain ⟨rv, bv, h⟩ := Lw_of F (t5 (V 436 2) c t4.2) (by omega)
    refine ⟨z.1 17 (V 436 2).toNat, V 436 2, rv, bv, h, rfl, fun W J h1 h2 => ?_⟩
    have e := y_textOf1 (V := W) (J := J) F (i := V 436 2) (by omega)
    have w2 : W 9 12 = V 436 2 := h2.trans t3
    simp (disch := first | decide | omega | (simp (disch := first | decide | omega) only [sv_s, sv_o, ur_s, ur_e, ur_o]; omega)) only [↓reduceIte, iv_add, iv_sub, iv_mul, iv_neg, iv_ltT, iv_ltF, iv_leT, iv_leF, iv_eqT, iv_eqF, iv_div, iv_mod, ↓bnI_s, ↓bnV_s, ↓bnJ_s, ↓bnR_s, rt_e, rt_0, rt_bz, sv_s, sv_o, ur_s, ur_e, ur_o, bz_T, bz_F, nat_eqF, Nat.reduceAdd, ↓q_House_law, ↓gI_9_12 F, ↓gd_9 F, il_0, il_1, il_2, il_12, il_18, w2, e]
  · refine ⟨0, -1, _, _, Lw_no F, by omega, fun W J h1 h2 => ?_⟩
    have e := y_textOf0 (V := W) (J := J) F (i := -1) (by omega) (by omega) (by omega)
    have w2 : W 9 12 = -1 := by omega
    simp (disch := first | decide | omega | (simp (disch := first | decide | omega) only [sv_s, sv_o, ur_s, ur_e, ur_o]; omega)) only [↓reduceIte, iv_add, iv_sub, iv_mul, iv_neg, iv_ltT, iv_ltF, iv_leT, iv_leF, iv_eqT, iv_eqF, iv_div, iv_mod, ↓bnI_s, ↓bnV_s, ↓bnJ_s, ↓bnR_s, rt_e, rt_0, rt_bz, sv_s, sv_o, ur_s, ur_e, ur_o, bz_T, bz_F, nat_eqF, Nat.reduceAdd, ↓q_House_law, ↓gI_9_12 F, ↓gd_9 F, il_0, il_1, il_2, il_12, il_18, w2, e]
end
