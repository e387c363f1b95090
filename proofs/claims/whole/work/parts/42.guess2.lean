/-! what a row answers: class and model -/
theorem mem_rg {n k : Nat} (h : k < n) : k ∈ List.range n := List.mem_range.mpr h
theorem K_at {r : Nat} (h : r < 125) : mkd r = nI (kN r) ∧ kN r < 1073741824 := by
  have q := List.all_eq_true.mp chk_K r (mem_rg h)
  simp only [Bool.and_eq_true, decide_eq_true_eq] at q
  exact ⟨q.1, Nat.blt_eq.mp q.2⟩
theorem A_at {r q : Nat} (h : r < 125) (h2 : q < 125) : (kN r &&& kN q) % 32768 = rtN' r q ∧ (kN r &&& kN q) / 32768 = cmN (nN r q 0) (nN r q 1) (nN r q 2) (nN r q 3) (nN r q 4) ∧ 10 * rN r q + bN r q - rN r q ≤ 30 ∧ rN r q ≤ bN r q ∧ bN r q ≤ 3 := by
  have t := List.all_eq_true.mp (List.all_eq_true.mp chk_A r (mem_rg h)) q (mem_rg h2)
  simp only [Bool.and_eq_true] at t
  exact ⟨Nat.eq_of_beq_eq_true t.1.1.1.1, Nat.eq_of_beq_eq_true t.1.1.1.2, Nat.ble_eq.mp t.1.1.2, Nat.ble_eq.mp t.1.2, Nat.ble_eq.mp t.2⟩
theorem B_at {a b c : Nat} (ha : a < 6) (hb : b < 6) (hc : c < 6) : BC (nI (h6 a + 32 * h6 b + 1024 * h6 c)) = nI (e6 a + e6 b + e6 c) :=
  of_decide_eq_true (List.all_eq_true.mp (List.all_eq_true.mp (List.all_eq_true.mp chk_B a (mem_rg ha)) b (mem_rg hb)) c (mem_rg hc))
theorem C_at {a b c d e : Nat} (ha : a < 4) (hb : b < 4) (hc : c < 4) (hd : d < 4) (he : e < 4) : BC (nI (cmN a b c d e)) = nI (a + b + c + d + e) :=
  of_decide_eq_true (List.all_eq_true.mp (List.all_eq_true.mp (List.all_eq_true.mp (List.all_eq_true.mp (List.all_eq_true.mp chk_C a (mem_rg ha)) b (mem_rg hb)) c (mem_rg hc)) d (mem_rg hd)) e (mem_rg he))
theorem hN_h6 {a b : Nat} (ha : a < 5) : ∃ x, x < 6 ∧ hN a b = h6 x ∧ eN a b = e6 x := by
  by_cases e : a = b
  · refine ⟨a, by omega, ?_, ?_⟩
    · unfold hN h6; rw [if_pos e, if_neg (by omega)]
    · unfold eN e6; rw [if_pos e, if_neg (by omega)]
  · refine ⟨5, by omega, ?_, ?_⟩
    · unfold hN h6; rw [if_neg e, if_pos rfl]
    · unfold eN e6; rw [if_neg e, if_pos rfl]
theorem BC_r {r q : Nat} (h : r < 125) : BC (nI (rtN' r q)) = nI (rN r q) := by
  obtain ⟨x, x0, x1, x2⟩ := hN_h6 (a := r / 25) (b := q / 25) (by omega)
  obtain ⟨y, y0, y1, y2⟩ := hN_h6 (a := r / 5 % 5) (b := q / 5 % 5) (by omega)
  obtain ⟨w, w0, w1, w2⟩ := hN_h6 (a := r % 5) (b := q % 5) (by omega)
  unfold rtN' rN
  rw [x1, x2, y1, y2, w1, w2]
  exact B_at x0 y0 w0
theorem eN_le (a b : Nat) : eN a b ≤ 1 := by unfold eN; split <;> omega
theorem cN_lt (r v : Nat) : cN r v < 4 := by
  have a := eN_le (r / 25) v
  have b := eN_le (r / 5 % 5) v
  have c := eN_le (r % 5) v
  unfold cN; omega
theorem nN_lt (r q v : Nat) : nN r q v < 4 := by unfold nN; split <;> exact cN_lt _ _
/-- the answer -/
def an (r q : Nat) : Int := ((10 * rN r q + bN r q - rN r q : Nat) : Int)
theorem an_rg {r q : Nat} (h : r < 125) (h2 : q < 125) : 0 ≤ an r q ∧ an r q ≤ 30 := by
  have := (A_at h h2).2.2.1
  unfold an; omega
/-- the marks stand in their row -/
def Mrk (V : Vm) : Prop := ∀ r : Nat, r < 125 → V 432 r = (kN r : Int)
section
variable {V J : Vm} {z : Zz}
theorem y_reply (F : Fix z) (M : Mrk V) {r q : Nat} (hr : r < 125) (hq : q < 125) : cA m_Rows_replyOf [.ref 431, .int (iv r), .int (iv q)] (em V J z) = some (.int (iv (an r q)), em V J z) := by
  obtain ⟨a1, a2, a3, a4, a5⟩ := A_at hr hq
  have k1 := (K_at hr).2
  have k2 : kN r &&& kN q < 1073741824 := Nat.lt_of_le_of_lt Nat.and_le_left k1
  have e1 : iv ((kN r &&& kN q : Nat) : Int) &&& iv 32767 = iv (rtN' r q : Int) := by
    rw [iv_nat, show iv 32767 = nI 32767 from rfl, pk_andN (by omega) 15 (by decide), a1, iv_nat]
  have e2 : iv ((kN r &&& kN q : Nat) : Int) >>> (iv 15 &&& iv 31) = iv (cmN (nN r q 0) (nN r q 1) (nN r q 2) (nN r q 3) (nN r q 4) : Int) := by
    rw [iv_nat, pk_shrN (by omega) (iv 15 &&& iv 31) 15 (by decide), iv_nat, ← a2]
  have b1 : BC (iv (rtN' r q : Int)) = iv (rN r q : Int) := by rw [iv_nat, iv_nat]; exact BC_r hr
  have b2 : BC (iv (cmN (nN r q 0) (nN r q 1) (nN r q 2) (nN r q 3) (nN r q 4) : Int)) = iv (bN r q : Int) := by rw [iv_nat, iv_nat]; exact C_at (nN_lt _ _ _) (nN_lt _ _ _) (nN_lt _ _ _) (nN_lt _ _ _) (nN_lt _ _ _)
  simp (disch := first | decide | omega | (simp (disch := first | decide | omega) only [sv_s, sv_o, ur_s, ur_e, ur_o]; omega)) only [↓reduceIte, iv_add, iv_sub, iv_mul, iv_neg, iv_ltT, iv_ltF, iv_leT, iv_leF, iv_eqT, iv_eqF, iv_div, iv_mod, ↓bnI_s, ↓bnV_s, ↓bnJ_s, ↓bnR_s, rt_e, rt_0, rt_bz, sv_s, sv_o, ur_s, ur_e, ur_o, bz_T, bz_F, nat_eqF, ↓q_Rows_replyOf, ↓gR_431_0 F, ↓gd_431 F, il_0, il_1, il_6, il_10, il_15, il_22, il_31, il_32767, y_get (s_432 F) (by decide), rd_in, M r hr, M q hq, iv_and, e1, e2, y_bitCount, b1, b2]
  refine si ?_
  unfold an
  omega
theorem y_digit {r k : Nat} {h : Mem} (hr : r < 125) (hk : k < 3) : cA m_M_digitOf [.int (iv r), .int (iv k)] h = some (.int (iv (dN r k)), h) := by
  unfold dN
  rcases (show k = 0 ∨ k = 1 ∨ k = 2 by omega) with rfl | rfl | rfl
  · rw [if_pos rfl]; simp (disch := first | decide | omega | (simp (disch := first | decide | omega) only [sv_s, sv_o, ur_s, ur_e, ur_o]; omega)) only [↓reduceIte, iv_add, iv_sub, iv_mul, iv_neg, iv_ltT, iv_ltF, iv_leT, iv_leF, iv_eqT, iv_eqF, iv_div, iv_mod, ↓bnI_s, ↓bnV_s, ↓bnJ_s, ↓bnR_s, rt_e, rt_0, rt_bz, sv_s, sv_o, ur_s, ur_e, ur_o, bz_T, bz_F, nat_eqF, ↓q_M_digitOf, il_0, il_1, il_5, il_25]
    rfl
  · rw [if_neg (by decide), if_pos rfl]; simp (disch := first | decide | omega | (simp (disch := first | decide | omega) only [sv_s, sv_o, ur_s, ur_e, ur_o]; omega)) only [↓reduceIte, iv_add, iv_sub, iv_mul, iv_neg, iv_ltT, iv_ltF, iv_leT, iv_leF, iv_eqT, iv_eqF, iv_div, iv_mod, ↓bnI_s, ↓bnV_s, ↓bnJ_s, ↓bnR_s, rt_e, rt_0, rt_bz, sv_s, sv_o, ur_s, ur_e, ur_o, bz_T, bz_F, nat_eqF, ↓q_M_digitOf, il_0, il_1, il_5, il_25]
    rfl
  · rw [if_neg (by decide), if_neg (by decide)]; simp (disch := first | decide | omega | (simp (disch := first | decide | omega) only [sv_s, sv_o, ur_s, ur_e, ur_o]; omega)) only [↓reduceIte, iv_add, iv_sub, iv_mul, iv_neg, iv_ltT, iv_ltF, iv_leT, iv_leF, iv_eqT, iv_eqF, iv_div, iv_mod, ↓bnI_s, ↓bnV_s, ↓bnJ_s, ↓bnR_s, rt_e, rt_0, rt_bz, sv_s, sv_o, ur_s, ur_e, ur_o, bz_T, bz_F, nat_eqF, ↓q_M_digitOf, il_0, il_1, il_5, il_25]
    rfl
theorem dN_lt {r k : Nat} (hr : r < 125) : dN r k < 5 := by
  unfold dN; repeat' split
  all_goals omega
theorem y_count_s {r v : Nat} {n : Nat} {k : Nat} {h : Mem} (hr : r < 125) (hv : v < 5) (hk : k < 3) : rX m_M_countOf m_M_countOf 4 [.int (iv r), .int (iv v), .int (iv n), .int (iv k)] [] h = rX m_M_countOf m_M_countOf 4 [.int (iv r), .int (iv v), .int (iv ((n + eN (dN r k) v : Nat) : Int)), .int (iv ((k + 1 : Nat) : Int))] [] h := by
  have d := dN_lt (k := k) hr
  unfold eN
  by_cases e : dN r k = v
  · rw [if_pos e]
    (rw [q_M_countOf_4]; simp (disch := first | decide | omega | (simp (disch := first | decide | omega) only [sv_s, sv_o, ur_s, ur_e, ur_o]; omega)) only [↓reduceIte, iv_add, iv_sub, iv_mul, iv_neg, iv_ltT, iv_ltF, iv_leT, iv_leF, iv_eqT, iv_eqF, iv_div, iv_mod, ↓bnI_s, ↓bnV_s, ↓bnJ_s, ↓bnR_s, rt_e, rt_0, rt_bz, sv_s, sv_o, ur_s, ur_e, ur_o, bz_T, bz_F, nat_eqF, il_0, il_1, il_3, il_4, y_digit hr hk, Int.natCast_add, Int.natCast_one, Int.cast_ofNat_Int])
  · rw [if_neg e]
    (rw [q_M_countOf_4]; simp (disch := first | decide | omega | (simp (disch := first | decide | omega) only [sv_s, sv_o, ur_s, ur_e, ur_o]; omega)) only [↓reduceIte, iv_add, iv_sub, iv_mul, iv_neg, iv_ltT, iv_ltF, iv_leT, iv_leF, iv_eqT, iv_eqF, iv_div, iv_mod, ↓bnI_s, ↓bnV_s, ↓bnJ_s, ↓bnR_s, rt_e, rt_0, rt_bz, sv_s, sv_o, ur_s, ur_e, ur_o, bz_T, bz_F, nat_eqF, il_0, il_1, il_3, il_4, y_digit hr hk, Int.natCast_add, Int.natCast_one, Int.cast_ofNat_Int])
theorem y_count {r v : Nat} {h : Mem} (hr : r < 125) (hv : v < 5) : cA m_M_countOf [.int (iv r), .int (iv v)] h = some (.int (iv (cN r v)), h) := by
  have s0 := y_count_s (n := 0) (k := 0) (h := h) hr hv (by omega)
  have s1 := y_count_s (n := 0 + eN (dN r 0) v) (k := 1) (h := h) hr hv (by omega)
  have s2 := y_count_s (n := 0 + eN (dN r 0) v + eN (dN r 1) v) (k := 2) (h := h) hr hv (by omega)
  have e : rX m_M_countOf m_M_countOf 4 [.int (iv r), .int (iv v), .int (iv ((0 + eN (dN r 0) v + eN (dN r 1) v + eN (dN r 2) v : Nat) : Int)), .int (iv ((3 : Nat) : Int))] [] h = some (.int (iv ((0 + eN (dN r 0) v + eN (dN r 1) v + eN (dN r 2) v : Nat) : Int)), h) := by
    (rw [q_M_countOf_4]; simp (disch := first | decide | omega | (simp (disch := first | decide | omega) only [sv_s, sv_o, ur_s, ur_e, ur_o]; omega)) only [↓reduceIte, iv_add, iv_sub, iv_mul, iv_neg, iv_ltT, iv_ltF, iv_leT, iv_leF, iv_eqT, iv_eqF, iv_div, iv_mod, ↓bnI_s, ↓bnV_s, ↓bnJ_s, ↓bnR_s, rt_e, rt_0, rt_bz, sv_s, sv_o, ur_s, ur_e, ur_o, bz_T, bz_F, nat_eqF, il_0, il_1, il_3, il_4])
  rw [q_M_countOf]
  refine (s0.trans (s1.trans (s2.trans e))).trans (si ?_)
  unfold cN
  show ((0 + eN (r / 25) v + eN (r / 5 % 5) v + eN (r % 5) v : Nat) : Int) = _
  omega
theorem y_ans_s {r q n k b : Nat} {h : Mem} (hr : r < 125) (hq : q < 125) (hk : k < 3) : rX m_M_answerOf m_M_answerOf 7 [.int (iv r), .int (iv q), .int (iv n), .int (iv b), .int (iv k)] [] h = rX m_M_answerOf m_M_answerOf 7 [.int (iv r), .int (iv q), .int (iv ((n + eN (dN r k) (dN q k) : Nat) : Int)), .int (iv b), .int (iv ((k + 1 : Nat) : Int))] [] h := by
  have d := dN_lt (k := k) hr
  have d2 := dN_lt (k := k) hq
  unfold eN
  by_cases e : dN r k = dN q k
  · rw [if_pos e]
    (rw [q_M_answerOf_7]; simp (disch := first | decide | omega | (simp (disch := first | decide | omega) only [sv_s, sv_o, ur_s, ur_e, ur_o]; omega)) only [↓reduceIte, iv_add, iv_sub, iv_mul, iv_neg, iv_ltT, iv_ltF, iv_leT, iv_leF, iv_eqT, iv_eqF, iv_div, iv_mod, ↓bnI_s, ↓bnV_s, ↓bnJ_s, ↓bnR_s, rt_e, rt_0, rt_bz, sv_s, sv_o, ur_s, ur_e, ur_o, bz_T, bz_F, nat_eqF, il_0, il_1, il_3, il_7, il_45, y_digit hr hk, y_digit hq hk, Int.natCast_add, Int.natCast_one, Int.cast_ofNat_Int])
  · rw [if_neg e]
    (rw [q_M_answerOf_7]; simp (disch := first | decide | omega | (simp (disch := first | decide | omega) only [sv_s, sv_o, ur_s, ur_e, ur_o]; omega)) only [↓reduceIte, iv_add, iv_sub, iv_mul, iv_neg, iv_ltT, iv_ltF, iv_leT, iv_leF, iv_eqT, iv_eqF, iv_div, iv_mod, ↓bnI_s, ↓bnV_s, ↓bnJ_s, ↓bnR_s, rt_e, rt_0, rt_bz, sv_s, sv_o, ur_s, ur_e, ur_o, bz_T, bz_F, nat_eqF, il_0, il_1, il_3, il_7, il_45, y_digit hr hk, y_digit hq hk, Int.natCast_add, Int.natCast_one, Int.cast_ofNat_Int])
theorem y_ans_t {r q n k b : Nat} {h : Mem} (hr : r < 125) (hq : q < 125) (hk : k < 5) : rX m_M_answerOf m_M_answerOf 45 [.int (iv r), .int (iv q), .int (iv n), .int (iv b), .int (iv k)] [] h = rX m_M_answerOf m_M_answerOf 45 [.int (iv r), .int (iv q), .int (iv n), .int (iv ((b + nN r q k : Nat) : Int)), .int (iv ((k + 1 : Nat) : Int))] [] h := by
  have d := cN_lt r k
  have d2 := cN_lt q k
  unfold nN
  by_cases e : cN r k < cN q k
  · rw [if_pos e]
    (rw [q_M_answerOf_45]; simp (disch := first | decide | omega | (simp (disch := first | decide | omega) only [sv_s, sv_o, ur_s, ur_e, ur_o]; omega)) only [↓reduceIte, iv_add, iv_sub, iv_mul, iv_neg, iv_ltT, iv_ltF, iv_leT, iv_leF, iv_eqT, iv_eqF, iv_div, iv_mod, ↓bnI_s, ↓bnV_s, ↓bnJ_s, ↓bnR_s, rt_e, rt_0, rt_bz, sv_s, sv_o, ur_s, ur_e, ur_o, bz_T, bz_F, nat_eqF, il_0, il_1, il_5, il_10, il_45, y_count hr hk, y_count hq hk, Int.natCast_add, Int.natCast_one, Int.cast_ofNat_Int])
  · rw [if_neg e]
    (rw [q_M_answerOf_45]; simp (disch := first | decide | omega | (simp (disch := first | decide | omega) only [sv_s, sv_o, ur_s, ur_e, ur_o]; omega)) only [↓reduceIte, iv_add, iv_sub, iv_mul, iv_neg, iv_ltT, iv_ltF, iv_leT, iv_leF, iv_eqT, iv_eqF, iv_div, iv_mod, ↓bnI_s, ↓bnV_s, ↓bnJ_s, ↓bnR_s, rt_e, rt_0, rt_bz, sv_s, sv_o, ur_s, ur_e, ur_o, bz_T, bz_F, nat_eqF, il_0, il_1, il_5, il_10, il_45, y_count hr hk, y_count hq hk, Int.natCast_add, Int.natCast_one, Int.cast_ofNat_Int])
theorem y_answerOf {r q : Nat} {h : Mem} (hr : r < 125) (hq : q < 125) : cA m_M_answerOf [.int (iv r), .int (iv q)] h = some (.int (iv (an r q)), h) := by
  have s0 := y_ans_s (n := 0) (k := 0) (b := 0) (h := h) hr hq (by omega)
  have s1 := y_ans_s (n := 0 + eN (dN r 0) (dN q 0)) (k := 1) (b := 0) (h := h) hr hq (by omega)
  have s2 := y_ans_s (n := 0 + eN (dN r 0) (dN q 0) + eN (dN r 1) (dN q 1)) (k := 2) (b := 0) (h := h) hr hq (by omega)
  have en : 0 + eN (dN r 0) (dN q 0) + eN (dN r 1) (dN q 1) + eN (dN r 2) (dN q 2) = rN r q := by
    unfold rN; show 0 + eN (r / 25) (q / 25) + eN (r / 5 % 5) (q / 5 % 5) + eN (r % 5) (q % 5) = _; omega
  rw [en] at s2
  have e : rX m_M_answerOf m_M_answerOf 7 [.int (iv r), .int (iv q), .int (iv (rN r q : Nat)), .int (iv ((0 : Nat) : Int)), .int (iv ((3 : Nat) : Int))] [] h = rX m_M_answerOf m_M_answerOf 45 [.int (iv r), .int (iv q), .int (iv (rN r q : Nat)), .int (iv ((0 : Nat) : Int)), .int (iv ((0 : Nat) : Int))] [] h := by
    (rw [q_M_answerOf_7]; simp (disch := first | decide | omega | (simp (disch := first | decide | omega) only [sv_s, sv_o, ur_s, ur_e, ur_o]; omega)) only [↓reduceIte, iv_add, iv_sub, iv_mul, iv_neg, iv_ltT, iv_ltF, iv_leT, iv_leF, iv_eqT, iv_eqF, iv_div, iv_mod, ↓bnI_s, ↓bnV_s, ↓bnJ_s, ↓bnR_s, rt_e, rt_0, rt_bz, sv_s, sv_o, ur_s, ur_e, ur_o, bz_T, bz_F, nat_eqF, il_0, il_1, il_3, il_7, il_45])
    rfl
  have t0 := y_ans_t (n := rN r q) (k := 0) (b := 0) (h := h) hr hq (by omega)
  have t1 := y_ans_t (n := rN r q) (k := 1) (b := 0 + nN r q 0) (h := h) hr hq (by omega)
  have t2 := y_ans_t (n := rN r q) (k := 2) (b := 0 + nN r q 0 + nN r q 1) (h := h) hr hq (by omega)
  have t3 := y_ans_t (n := rN r q) (k := 3) (b := 0 + nN r q 0 + nN r q 1 + nN r q 2) (h := h) hr hq (by omega)
  have t4 := y_ans_t (n := rN r q) (k := 4) (b := 0 + nN r q 0 + nN r q 1 + nN r q 2 + nN r q 3) (h := h) hr hq (by omega)
  have eb : 0 + nN r q 0 + nN r q 1 + nN r q 2 + nN r q 3 + nN r q 4 = bN r q := by unfold bN; omega
  rw [eb] at t4
  have a4 := (A_at hr hq).2.2.2
  have f : rX m_M_answerOf m_M_answerOf 45 [.int (iv r), .int (iv q), .int (iv (rN r q : Nat)), .int (iv (bN r q : Nat)), .int (iv ((5 : Nat) : Int))] [] h = some (.int (iv (an r q)), h) := by
    (rw [q_M_answerOf_45]; simp (disch := first | decide | omega | (simp (disch := first | decide | omega) only [sv_s, sv_o, ur_s, ur_e, ur_o]; omega)) only [↓reduceIte, iv_add, iv_sub, iv_mul, iv_neg, iv_ltT, iv_ltF, iv_leT, iv_leF, iv_eqT, iv_eqF, iv_div, iv_mod, ↓bnI_s, ↓bnV_s, ↓bnJ_s, ↓bnR_s, rt_e, rt_0, rt_bz, sv_s, sv_o, ur_s, ur_e, ur_o, bz_T, bz_F, nat_eqF, il_0, il_1, il_5, il_10, il_45])
    refine si ?_
    unfold an
    omega
  rw [q_M_answerOf]
  exact s0.trans (s1.trans (s2.trans (e.trans (t0.trans (t1.trans (t2.trans (t3.trans (t4.trans f))))))))
theorem y_isRow {r : Int} {h : Mem} (hr : (-2147483648 ≤ r ∧ r < 2147483648)) : cA m_M_isRow [.int (iv r)] h = some (.int (iv (bz (0 ≤ r ∧ r ≤ 124))), h) := by
  simp (disch := first | decide | omega | (simp (disch := first | decide | omega) only [sv_s, sv_o, ur_s, ur_e, ur_o]; omega)) only [↓reduceIte, iv_add, iv_sub, iv_mul, iv_neg, iv_ltT, iv_ltF, iv_leT, iv_leF, iv_eqT, iv_eqF, iv_div, iv_mod, ↓bnI_s, ↓bnV_s, ↓bnJ_s, ↓bnR_s, rt_e, rt_0, rt_bz, sv_s, sv_o, ur_s, ur_e, ur_o, bz_T, bz_F, nat_eqF, ↓q_M_isRow, il_0, il_1, il_124, y_isIn]
theorem p_answer (F : Fix z) (M : Mrk V) {r q : Int} (hr : (-2147483648 ≤ r ∧ r < 2147483648)) (hq : (-2147483648 ≤ q ∧ q < 2147483648)) : Pq V J z (fun h => cA m_X_answer [.ref 8, .int (iv r), .int (iv q)] h) (fun h => cA m_M_answer [.ref 435, .int (iv r), .int (iv q)] h) := by
  by_cases h1 : 0 ≤ r ∧ r ≤ 124
  · by_cases h2 : 0 ≤ q ∧ q ≤ 124
    · obtain ⟨r, rfl⟩ := Int.eq_ofNat_of_zero_le h1.1
      obtain ⟨q, rfl⟩ := Int.eq_ofNat_of_zero_le h2.1
      exact ⟨an r q, V, J, V, J, (by simp (disch := first | decide | omega | (simp (disch := first | decide | omega) only [sv_s, sv_o, ur_s, ur_e, ur_o]; omega)) only [↓reduceIte, iv_add, iv_sub, iv_mul, iv_neg, iv_ltT, iv_ltF, iv_leT, iv_leF, iv_eqT, iv_eqF, iv_div, iv_mod, ↓bnI_s, ↓bnV_s, ↓bnJ_s, ↓bnR_s, rt_e, rt_0, rt_bz, sv_s, sv_o, ur_s, ur_e, ur_o, bz_T, bz_F, nat_eqF, ↓q_X_answer, ↓gR_8_8 F, ↓gd_8 F, il_0, il_1, il_8, il_10, il_26, il_124, y_within, y_reply F M (r := r) (q := q) (by omega) (by omega)]), rfl, (by simp (disch := first | decide | omega | (simp (disch := first | decide | omega) only [sv_s, sv_o, ur_s, ur_e, ur_o]; omega)) only [↓reduceIte, iv_add, iv_sub, iv_mul, iv_neg, iv_ltT, iv_ltF, iv_leT, iv_leF, iv_eqT, iv_eqF, iv_div, iv_mod, ↓bnI_s, ↓bnV_s, ↓bnJ_s, ↓bnR_s, rt_e, rt_0, rt_bz, sv_s, sv_o, ur_s, ur_e, ur_o, bz_T, bz_F, nat_eqF, ↓q_M_answer, ↓gd_435 F, il_0, il_1, il_27, y_isRow, y_answerOf (r := r) (q := q) (by omega) (by omega)]), rfl⟩
    · exact ⟨-1, V, J, V, J, (by simp (disch := first | decide | omega | (simp (disch := first | decide | omega) only [sv_s, sv_o, ur_s, ur_e, ur_o]; omega)) only [↓reduceIte, iv_add, iv_sub, iv_mul, iv_neg, iv_ltT, iv_ltF, iv_leT, iv_leF, iv_eqT, iv_eqF, iv_div, iv_mod, ↓bnI_s, ↓bnV_s, ↓bnJ_s, ↓bnR_s, rt_e, rt_0, rt_bz, sv_s, sv_o, ur_s, ur_e, ur_o, bz_T, bz_F, nat_eqF, ↓q_X_answer, ↓gR_8_8 F, ↓gd_8 F, il_0, il_1, il_8, il_10, il_26, il_124, y_within]), rfl, (by simp (disch := first | decide | omega | (simp (disch := first | decide | omega) only [sv_s, sv_o, ur_s, ur_e, ur_o]; omega)) only [↓reduceIte, iv_add, iv_sub, iv_mul, iv_neg, iv_ltT, iv_ltF, iv_leT, iv_leF, iv_eqT, iv_eqF, iv_div, iv_mod, ↓bnI_s, ↓bnV_s, ↓bnJ_s, ↓bnR_s, rt_e, rt_0, rt_bz, sv_s, sv_o, ur_s, ur_e, ur_o, bz_T, bz_F, nat_eqF, ↓q_M_answer, ↓gd_435 F, il_0, il_1, il_27, y_isRow]), rfl⟩
  · exact ⟨-1, V, J, V, J, (by simp (disch := first | decide | omega | (simp (disch := first | decide | omega) only [sv_s, sv_o, ur_s, ur_e, ur_o]; omega)) only [↓reduceIte, iv_add, iv_sub, iv_mul, iv_neg, iv_ltT, iv_ltF, iv_leT, iv_leF, iv_eqT, iv_eqF, iv_div, iv_mod, ↓bnI_s, ↓bnV_s, ↓bnJ_s, ↓bnR_s, rt_e, rt_0, rt_bz, sv_s, sv_o, ur_s, ur_e, ur_o, bz_T, bz_F, nat_eqF, ↓q_X_answer, ↓gR_8_8 F, ↓gd_8 F, il_0, il_1, il_8, il_10, il_26, il_124, y_within]), rfl, (by simp (disch := first | decide | omega | (simp (disch := first | decide | omega) only [sv_s, sv_o, ur_s, ur_e, ur_o]; omega)) only [↓reduceIte, iv_add, iv_sub, iv_mul, iv_neg, iv_ltT, iv_ltF, iv_leT, iv_leF, iv_eqT, iv_eqF, iv_div, iv_mod, ↓bnI_s, ↓bnV_s, ↓bnJ_s, ↓bnR_s, rt_e, rt_0, rt_bz, sv_s, sv_o, ur_s, ur_e, ur_o, bz_T, bz_F, nat_eqF, ↓q_M_answer, ↓gd_435 F, il_0, il_1, il_27, y_isRow]), rfl⟩
end
