/-! SPITE of a row -/
def prs (S W : Int → Int) (i j : Int) : Int := S (W i * 6 + W j)
def csp (S W : Int → Int) (n : Int) : Nat → Int
  | 0 => 0
  | k + 1 => csp S W n k + prs S W k (if (k : Int) + 1 < n then (k : Int) + 1 else 0)
def spv (S W : Int → Int) (n : Int) : Int := if n < 2 then 0 else if n = 2 then prs S W 0 1 else csp S W n n.toNat
/-- the spites, told either way, small -/
def SpO (S : Int → Int) : Prop := ∀ k, 0 ≤ k → k < 36 → (0 ≤ S k ∧ S k ≤ 99) ∧ S (6 * (k % 6) + k / 6) = S k
def WO (W : Int → Int) (n : Int) : Prop := ∀ k, 0 ≤ k → k < n → 0 ≤ W k ∧ W k < 6
theorem prs_rg {S W : Int → Int} {n i j : Int} (hS : SpO S) (hW : WO W n) (hi : 0 ≤ i ∧ i < n) (hj : 0 ≤ j ∧ j < n) : 0 ≤ prs S W i j ∧ prs S W i j ≤ 99 := by
  have a := hW i hi.1 hi.2
  have b := hW j hj.1 hj.2
  exact (hS _ (by omega) (by omega)).1
theorem prs_sym {S W : Int → Int} {n i j : Int} (hS : SpO S) (hW : WO W n) (hi : 0 ≤ i ∧ i < n) (hj : 0 ≤ j ∧ j < n) : prs S W j i = prs S W i j := by
  have a := hW i hi.1 hi.2
  have b := hW j hj.1 hj.2
  have := (hS (W i * 6 + W j) (by omega) (by omega)).2
  unfold prs
  rw [show 6 * ((W i * 6 + W j) % 6) + (W i * 6 + W j) / 6 = W j * 6 + W i by omega] at this
  exact this
theorem csp_rg {S W : Int → Int} {n : Int} (hS : SpO S) (hW : WO W n) (hn : n ≤ 6) : ∀ k : Nat, (k : Int) ≤ n → 0 ≤ csp S W n k ∧ csp S W n k ≤ 99 * k := by
  intro k
  induction k with
  | zero => intro _; exact ⟨Int.le_refl _, Int.le_refl _⟩
  | succ k ih =>
    intro hk
    have a := ih (by omega)
    have b := prs_rg hS hW (i := k) (j := if (k : Int) + 1 < n then (k : Int) + 1 else 0) (by omega) (by split <;> omega)
    show 0 ≤ csp S W n k + prs S W k (if (k : Int) + 1 < n then (k : Int) + 1 else 0) ∧ csp S W n k + prs S W k (if (k : Int) + 1 < n then (k : Int) + 1 else 0) ≤ 99 * ((k + 1 : Nat) : Int)
    omega
theorem spv_rg {S W : Int → Int} {n : Int} (hS : SpO S) (hW : WO W n) (hn : 0 ≤ n ∧ n ≤ 6) : 0 ≤ spv S W n ∧ spv S W n ≤ 594 := by
  unfold spv
  split
  · omega
  · split
    · have := prs_rg hS hW (i := 0) (j := 1) (by omega) (by omega); omega
    · have := csp_rg hS hW hn.2 n.toNat (by omega); omega
theorem csp_c {S W W' : Int → Int} {n : Int} (h : ∀ k, 0 ≤ k → k < n → W k = W' k) : ∀ k : Nat, (k : Int) ≤ n → csp S W n k = csp S W' n k := by
  intro k
  induction k with
  | zero => intro _; rfl
  | succ k ih =>
    intro hk
    show csp S W n k + S (W k * 6 + W (if (k : Int) + 1 < n then (k : Int) + 1 else 0)) = csp S W' n k + S (W' k * 6 + W' (if (k : Int) + 1 < n then (k : Int) + 1 else 0))
    rw [ih (by omega), h k (by omega) (by omega), h (if (k : Int) + 1 < n then (k : Int) + 1 else 0) (by split <;> omega) (by split <;> omega)]
theorem spv_c {S W W' : Int → Int} {n : Int} (h : ∀ k, 0 ≤ k → k < n → W k = W' k) : spv S W n = spv S W' n := by
  unfold spv
  split
  · rfl
  · split
    · unfold prs; rw [h 0 (by omega) (by omega), h 1 (by omega) (by omega)]
    · exact csp_c h n.toNat (by omega)
section
variable {V J : Vm} {z : Zz}
theorem y_spiteOf_l (F : Fix z) {a : Nat} (sh : z.2.1 a = (1, 6)) {n : Int} (hn : 2 ≤ n ∧ n ≤ 6) (hS : SpO (V 18)) (hW : WO (V a) n) : ∀ (m k : Nat), (k : Int) + m = n → rX m_Rounds_spiteOf m_Rounds_spiteOf 5 [.ref a, .int (iv n), .ref 18, .int (iv (csp (V 18) (V a) n k)), .int (iv k), dd] [] (em V J z) = some (.int (iv (if n = 2 then csp (V 18) (V a) n n.toNat / 2 else csp (V 18) (V a) n n.toNat)), em V J z) := by
  intro m
  induction m with
  | zero =>
    intro k hk
    have c := csp_rg hS hW hn.2 k (by omega)
    rw [show n.toNat = k by omega]
    by_cases q : n = 2
    · rw [if_pos q]
      (rw [q_Rounds_spiteOf_5]; simp (disch := first | decide | omega | (simp (disch := first | decide | omega) only [sv_s, sv_o, ur_s, ur_e, ur_o]; omega)) only [↓reduceIte, iv_add, iv_sub, iv_mul, iv_neg, iv_ltT, iv_ltF, iv_leT, iv_leF, iv_eqT, iv_eqF, iv_div, iv_mod, ↓bnI_s, ↓bnV_s, ↓bnJ_s, ↓bnR_s, rt_e, rt_0, rt_bz, sv_s, sv_o, ur_s, ur_e, ur_o, bz_T, bz_F, nat_eqF, Nat.reduceAdd, il_0, il_1, il_2, il_5, il_32])
    · rw [if_neg q]
      (rw [q_Rounds_spiteOf_5]; simp (disch := first | decide | omega | (simp (disch := first | decide | omega) only [sv_s, sv_o, ur_s, ur_e, ur_o]; omega)) only [↓reduceIte, iv_add, iv_sub, iv_mul, iv_neg, iv_ltT, iv_ltF, iv_leT, iv_leF, iv_eqT, iv_eqF, iv_div, iv_mod, ↓bnI_s, ↓bnV_s, ↓bnJ_s, ↓bnR_s, rt_e, rt_0, rt_bz, sv_s, sv_o, ur_s, ur_e, ur_o, bz_T, bz_F, nat_eqF, Nat.reduceAdd, il_0, il_1, il_2, il_5, il_32])
  | succ m ih =>
    intro k hk
    have w1 := hW k (by omega) (by omega)
    have g1 := y_get (V := V) (J := J) sh (by decide) (i := k) (by omega)
    rw [rd_in (by omega)] at g1
    rw [← ih (k + 1) (by omega)]
    show _ = rX m_Rounds_spiteOf m_Rounds_spiteOf 5 [.ref a, .int (iv n), .ref 18, .int (iv (csp (V 18) (V a) n k + prs (V 18) (V a) k (if (k : Int) + 1 < n then (k : Int) + 1 else 0))), .int (iv ((k + 1 : Nat) : Int)), dd] [] (em V J z)
    by_cases q : (k : Int) + 1 < n
    · rw [if_pos q]
      have w2 := hW ((k : Int) + 1) (by omega) (by omega)
      have g2 := y_get (V := V) (J := J) sh (by decide) (i := (k : Int) + 1) (by omega)
      rw [rd_in (by omega)] at g2
      unfold prs
      (rw [q_Rounds_spiteOf_5]; simp (disch := first | decide | omega | (simp (disch := first | decide | omega) only [sv_s, sv_o, ur_s, ur_e, ur_o]; omega)) only [↓reduceIte, iv_add, iv_sub, iv_mul, iv_neg, iv_ltT, iv_ltF, iv_leT, iv_leF, iv_eqT, iv_eqF, iv_div, iv_mod, ↓bnI_s, ↓bnV_s, ↓bnJ_s, ↓bnR_s, rt_e, rt_0, rt_bz, sv_s, sv_o, ur_s, ur_e, ur_o, bz_T, bz_F, nat_eqF, Nat.reduceAdd, il_0, il_1, il_2, il_5, il_32, ↓q_Rounds_spiteOf_32, il_6, g1, g2, y_get (s_18 F) (by decide), rd_in, Int.natCast_add, Int.natCast_one])
    · rw [if_neg q]
      have w2 := hW 0 (by omega) (by omega)
      have g2 := y_get (V := V) (J := J) sh (by decide) (i := 0) (by omega)
      rw [rd_in (by omega)] at g2
      unfold prs
      (rw [q_Rounds_spiteOf_5]; simp (disch := first | decide | omega | (simp (disch := first | decide | omega) only [sv_s, sv_o, ur_s, ur_e, ur_o]; omega)) only [↓reduceIte, iv_add, iv_sub, iv_mul, iv_neg, iv_ltT, iv_ltF, iv_leT, iv_leF, iv_eqT, iv_eqF, iv_div, iv_mod, ↓bnI_s, ↓bnV_s, ↓bnJ_s, ↓bnR_s, rt_e, rt_0, rt_bz, sv_s, sv_o, ur_s, ur_e, ur_o, bz_T, bz_F, nat_eqF, Nat.reduceAdd, il_0, il_1, il_2, il_5, il_32, ↓q_Rounds_spiteOf_32, il_6, g1, g2, y_get (s_18 F) (by decide), rd_in, Int.natCast_add, Int.natCast_one])
theorem y_spiteOf (F : Fix z) {a : Nat} (sh : z.2.1 a = (1, 6)) {n : Int} (hn : 0 ≤ n ∧ n ≤ 6) (hS : SpO (V 18)) (hW : WO (V a) n) : cA m_Rounds_spiteOf [.ref a, .int (iv n), .ref 18] (em V J z) = some (.int (iv (spv (V 18) (V a) n)), em V J z) := by
  rw [q_Rounds_spiteOf, il_0]
  unfold spv
  by_cases q : n < 2
  · rw [if_pos q]
    by_cases q2 : n = 1
    · (rw [q_Rounds_spiteOf_5]; simp (disch := first | decide | omega | (simp (disch := first | decide | omega) only [sv_s, sv_o, ur_s, ur_e, ur_o]; omega)) only [↓reduceIte, iv_add, iv_sub, iv_mul, iv_neg, iv_ltT, iv_ltF, iv_leT, iv_leF, iv_eqT, iv_eqF, iv_div, iv_mod, ↓bnI_s, ↓bnV_s, ↓bnJ_s, ↓bnR_s, rt_e, rt_0, rt_bz, sv_s, sv_o, ur_s, ur_e, ur_o, bz_T, bz_F, nat_eqF, Nat.reduceAdd, il_0, il_1, il_2, il_5, il_32])
    · (rw [q_Rounds_spiteOf_5]; simp (disch := first | decide | omega | (simp (disch := first | decide | omega) only [sv_s, sv_o, ur_s, ur_e, ur_o]; omega)) only [↓reduceIte, iv_add, iv_sub, iv_mul, iv_neg, iv_ltT, iv_ltF, iv_leT, iv_leF, iv_eqT, iv_eqF, iv_div, iv_mod, ↓bnI_s, ↓bnV_s, ↓bnJ_s, ↓bnR_s, rt_e, rt_0, rt_bz, sv_s, sv_o, ur_s, ur_e, ur_o, bz_T, bz_F, nat_eqF, Nat.reduceAdd, il_0, il_1, il_2, il_5, il_32])
  · rw [if_neg q]
    have e : rX m_Rounds_spiteOf m_Rounds_spiteOf 5 [.ref a, .int (iv n), .ref 18, .int (iv 0), .int (iv 0), dd] [] (em V J z) = some (.int (iv (if n = 2 then csp (V 18) (V a) n n.toNat / 2 else csp (V 18) (V a) n n.toNat)), em V J z) := y_spiteOf_l F sh (by omega) hS hW n.toNat 0 (by omega)
    rw [e]
    by_cases q2 : n = 2
    · rw [if_pos q2, if_pos q2]
      refine si ?_
      subst q2
      have s := prs_sym hS hW (i := 0) (j := 1) (by omega) (by omega)
      show (0 + prs (V 18) (V a) 0 1 + prs (V 18) (V a) 1 0) / 2 = _
      omega
    · rw [if_neg q2, if_neg q2]
theorem y_M_spiteOf_l (F : Fix z) {S : Int → Int} {n : Int} (h0 : V 436 0 = n) (hn : 0 ≤ n ∧ n ≤ 6) (hA : ∀ k, 0 ≤ k → k < 36 → V 436 (35 + k) = S k) (hS : SpO S) (hW : WO (V 445) n) (h2 : 2 < n) : ∀ (m k : Nat), (k : Int) + m = n → rX m_M_spiteOfRow m_M_spiteOfRow 11 [.ref 435, .int (iv n), .int (iv (csp S (V 445) n k)), .int (iv k)] [] (em V J z) = some (.int (iv (csp S (V 445) n n.toNat)), em V J z) := by
  intro m
  induction m with
  | zero =>
    intro k hk
    rw [show n.toNat = k by omega]
    (rw [q_M_spiteOfRow_11]; simp (disch := first | decide | omega | (simp (disch := first | decide | omega) only [sv_s, sv_o, ur_s, ur_e, ur_o]; omega)) only [↓reduceIte, iv_add, iv_sub, iv_mul, iv_neg, iv_ltT, iv_ltF, iv_leT, iv_leF, iv_eqT, iv_eqF, iv_div, iv_mod, ↓bnI_s, ↓bnV_s, ↓bnJ_s, ↓bnR_s, rt_e, rt_0, rt_bz, sv_s, sv_o, ur_s, ur_e, ur_o, bz_T, bz_F, nat_eqF, Nat.reduceAdd, il_0, il_1, il_2, il_11, il_28])
  | succ m ih =>
    intro k hk
    have w1 := hW k (by omega) (by omega)
    rw [← ih (k + 1) (by omega)]
    show _ = rX m_M_spiteOfRow m_M_spiteOfRow 11 [.ref 435, .int (iv n), .int (iv (csp S (V 445) n k + prs S (V 445) k (if (k : Int) + 1 < n then (k : Int) + 1 else 0))), .int (iv ((k + 1 : Nat) : Int))] [] (em V J z)
    have e : ((k : Int) + 1) % n = if (k : Int) + 1 < n then (k : Int) + 1 else 0 := by
      by_cases q : (k : Int) + 1 < n
      · rw [if_pos q, Int.emod_eq_of_lt (by omega) q]
      · rw [if_neg q, show (k : Int) + 1 = n by omega, Int.emod_self]
    have jr : 0 ≤ (if (k : Int) + 1 < n then (k : Int) + 1 else 0) ∧ (if (k : Int) + 1 < n then (k : Int) + 1 else 0) < n := by split <;> omega
    generalize (if (k : Int) + 1 < n then (k : Int) + 1 else 0) = j at *
    have w2 := hW j jr.1 jr.2
    have a := hA (V 445 k * 6 + V 445 j) (by omega) (by omega)
    rw [show 35 + (V 445 k * 6 + V 445 j) = 35 + 6 * V 445 k + V 445 j by omega] at a
    unfold prs
    (rw [q_M_spiteOfRow_11]; simp (disch := first | decide | omega | (simp (disch := first | decide | omega) only [sv_s, sv_o, ur_s, ur_e, ur_o]; omega)) only [↓reduceIte, iv_add, iv_sub, iv_mul, iv_neg, iv_ltT, iv_ltF, iv_leT, iv_leF, iv_eqT, iv_eqF, iv_div, iv_mod, ↓bnI_s, ↓bnV_s, ↓bnJ_s, ↓bnR_s, rt_e, rt_0, rt_bz, sv_s, sv_o, ur_s, ur_e, ur_o, bz_T, bz_F, nat_eqF, Nat.reduceAdd, ↓gR_435_0 F, ↓gR_435_26 F, ↓lI_436 F, ↓lI_437 F, ↓lI_438 F, ↓lI_439 F, ↓lI_440 F, ↓lI_441 F, ↓lI_443 F, ↓lI_444 F, ↓lI_445 F, ↓lI_446 F, ↓lI_447 F, ↓lI_448 F, ↓lI_449 F, ↓lI_450 F, il_0, il_1, il_2, il_6, il_11, il_26, il_28, il_35, ↓q_M_spiteOfRow_28, e, a, Int.natCast_add, Int.natCast_one])
theorem y_M_spiteOf (F : Fix z) {S : Int → Int} {n : Int} (h0 : V 436 0 = n) (hn : 0 ≤ n ∧ n ≤ 6) (hA : ∀ k, 0 ≤ k → k < 36 → V 436 (35 + k) = S k) (hS : SpO S) (hW : WO (V 445) n) : cA m_M_spiteOfRow [.ref 435] (em V J z) = some (.int (iv (spv S (V 445) n)), em V J z) := by
  have st : cA m_M_spiteOfRow [.ref 435] (em V J z) = rX m_M_spiteOfRow m_M_spiteOfRow 11 [.ref 435, .int (iv n), .int (iv 0), .int (iv 0)] [] (em V J z) := by
    simp (disch := first | decide | omega | (simp (disch := first | decide | omega) only [sv_s, sv_o, ur_s, ur_e, ur_o]; omega)) only [↓reduceIte, iv_add, iv_sub, iv_mul, iv_neg, iv_ltT, iv_ltF, iv_leT, iv_leF, iv_eqT, iv_eqF, iv_div, iv_mod, ↓bnI_s, ↓bnV_s, ↓bnJ_s, ↓bnR_s, rt_e, rt_0, rt_bz, sv_s, sv_o, ur_s, ur_e, ur_o, bz_T, bz_F, nat_eqF, Nat.reduceAdd, ↓q_M_spiteOfRow, ↓gR_435_0 F, ↓lI_436 F, ↓lI_437 F, ↓lI_438 F, ↓lI_439 F, ↓lI_440 F, ↓lI_441 F, ↓lI_443 F, ↓lI_444 F, ↓lI_445 F, ↓lI_446 F, ↓lI_447 F, ↓lI_448 F, ↓lI_449 F, ↓lI_450 F, ↓gd_435 F, il_0, il_1, il_11, il_27, h0]
  rw [st]
  unfold spv
  by_cases q0 : n = 0
  · rw [if_pos (by omega)]
    (rw [q_M_spiteOfRow_11]; simp (disch := first | decide | omega | (simp (disch := first | decide | omega) only [sv_s, sv_o, ur_s, ur_e, ur_o]; omega)) only [↓reduceIte, iv_add, iv_sub, iv_mul, iv_neg, iv_ltT, iv_ltF, iv_leT, iv_leF, iv_eqT, iv_eqF, iv_div, iv_mod, ↓bnI_s, ↓bnV_s, ↓bnJ_s, ↓bnR_s, rt_e, rt_0, rt_bz, sv_s, sv_o, ur_s, ur_e, ur_o, bz_T, bz_F, nat_eqF, Nat.reduceAdd, il_0, il_1, il_2, il_11, il_28])
  · by_cases q1 : n = 1
    · rw [if_pos (by omega)]
      subst q1
      rw [show rX m_M_spiteOfRow m_M_spiteOfRow 11 [.ref 435, .int (iv 1), .int (iv 0), .int (iv 0)] [] (em V J z) = rX m_M_spiteOfRow m_M_spiteOfRow 11 [.ref 435, .int (iv 1), .int (iv 0), .int (iv (0 + 1))] [] (em V J z) by (rw [q_M_spiteOfRow_11]; simp (disch := first | decide | omega | (simp (disch := first | decide | omega) only [sv_s, sv_o, ur_s, ur_e, ur_o]; omega)) only [↓reduceIte, iv_add, iv_sub, iv_mul, iv_neg, iv_ltT, iv_ltF, iv_leT, iv_leF, iv_eqT, iv_eqF, iv_div, iv_mod, ↓bnI_s, ↓bnV_s, ↓bnJ_s, ↓bnR_s, rt_e, rt_0, rt_bz, sv_s, sv_o, ur_s, ur_e, ur_o, bz_T, bz_F, nat_eqF, Nat.reduceAdd, il_0, il_1, il_2, il_11, il_28])]
      (rw [q_M_spiteOfRow_11]; simp (disch := first | decide | omega | (simp (disch := first | decide | omega) only [sv_s, sv_o, ur_s, ur_e, ur_o]; omega)) only [↓reduceIte, iv_add, iv_sub, iv_mul, iv_neg, iv_ltT, iv_ltF, iv_leT, iv_leF, iv_eqT, iv_eqF, iv_div, iv_mod, ↓bnI_s, ↓bnV_s, ↓bnJ_s, ↓bnR_s, rt_e, rt_0, rt_bz, sv_s, sv_o, ur_s, ur_e, ur_o, bz_T, bz_F, nat_eqF, Nat.reduceAdd, il_0, il_1, il_2, il_11, il_28])
    · rw [if_neg (by omega)]
      by_cases q2 : n = 2
      · rw [if_pos q2]
        subst q2
        have w0 := hW 0 (by omega) (by omega)
        have w1 := hW 1 (by omega) (by omega)
        have a := hA (V 445 0 * 6 + V 445 1) (by omega) (by omega)
        rw [show 35 + (V 445 0 * 6 + V 445 1) = 35 + 6 * V 445 0 + V 445 1 by omega] at a
        rw [show rX m_M_spiteOfRow m_M_spiteOfRow 11 [.ref 435, .int (iv 2), .int (iv 0), .int (iv 0)] [] (em V J z) = rX m_M_spiteOfRow m_M_spiteOfRow 11 [.ref 435, .int (iv 2), .int (iv (prs S (V 445) 0 1)), .int (iv 1)] [] (em V J z) by
          unfold prs
          (rw [q_M_spiteOfRow_11]; simp (disch := first | decide | omega | (simp (disch := first | decide | omega) only [sv_s, sv_o, ur_s, ur_e, ur_o]; omega)) only [↓reduceIte, iv_add, iv_sub, iv_mul, iv_neg, iv_ltT, iv_ltF, iv_leT, iv_leF, iv_eqT, iv_eqF, iv_div, iv_mod, ↓bnI_s, ↓bnV_s, ↓bnJ_s, ↓bnR_s, rt_e, rt_0, rt_bz, sv_s, sv_o, ur_s, ur_e, ur_o, bz_T, bz_F, nat_eqF, Nat.reduceAdd, ↓gR_435_0 F, ↓gR_435_26 F, ↓lI_436 F, ↓lI_437 F, ↓lI_438 F, ↓lI_439 F, ↓lI_440 F, ↓lI_441 F, ↓lI_443 F, ↓lI_444 F, ↓lI_445 F, ↓lI_446 F, ↓lI_447 F, ↓lI_448 F, ↓lI_449 F, ↓lI_450 F, il_0, il_1, il_2, il_6, il_11, il_26, il_28, il_35, ↓q_M_spiteOfRow_28, show (1 : Int) % 2 = 1 from rfl, a, Int.zero_add])]
        rw [show rX m_M_spiteOfRow m_M_spiteOfRow 11 [.ref 435, .int (iv 2), .int (iv (prs S (V 445) 0 1)), .int (iv 1)] [] (em V J z) = rX m_M_spiteOfRow m_M_spiteOfRow 11 [.ref 435, .int (iv 2), .int (iv (prs S (V 445) 0 1)), .int (iv (1 + 1))] [] (em V J z) by (rw [q_M_spiteOfRow_11]; simp (disch := first | decide | omega | (simp (disch := first | decide | omega) only [sv_s, sv_o, ur_s, ur_e, ur_o]; omega)) only [↓reduceIte, iv_add, iv_sub, iv_mul, iv_neg, iv_ltT, iv_ltF, iv_leT, iv_leF, iv_eqT, iv_eqF, iv_div, iv_mod, ↓bnI_s, ↓bnV_s, ↓bnJ_s, ↓bnR_s, rt_e, rt_0, rt_bz, sv_s, sv_o, ur_s, ur_e, ur_o, bz_T, bz_F, nat_eqF, Nat.reduceAdd, il_0, il_1, il_2, il_11, il_28])]
        (rw [q_M_spiteOfRow_11]; simp (disch := first | decide | omega | (simp (disch := first | decide | omega) only [sv_s, sv_o, ur_s, ur_e, ur_o]; omega)) only [↓reduceIte, iv_add, iv_sub, iv_mul, iv_neg, iv_ltT, iv_ltF, iv_leT, iv_leF, iv_eqT, iv_eqF, iv_div, iv_mod, ↓bnI_s, ↓bnV_s, ↓bnJ_s, ↓bnR_s, rt_e, rt_0, rt_bz, sv_s, sv_o, ur_s, ur_e, ur_o, bz_T, bz_F, nat_eqF, Nat.reduceAdd, il_0, il_1, il_2, il_11, il_28])
      · rw [if_neg q2]
        exact y_M_spiteOf_l F h0 hn hA hS hW (by omega) n.toNat 0 (by omega)
/-- the model lays the seats into its row, and weighs it -/
theorem y_seats_l (F : Fix z) {n : Int} (hn : 0 ≤ n ∧ n ≤ 6) : ∀ (m k : Nat) (V : Vm), V 436 0 = n → PS (V 436) → (k : Int) + m = n → (∀ j, 0 ≤ j → j < (k : Int) → V 445 (V 436 (17 + j)) = j) → ∃ V', (∀ a, a ≠ 445 → V' a = V a) ∧ (∀ j, 0 ≤ j → j < n → V' 445 (V 436 (17 + j)) = j) ∧ rX m_M_spiteOfSeats m_M_spiteOfSeats 2 [.ref 435, .int (iv k)] [] (em V J z) = rX m_M_spiteOfSeats m_M_spiteOfSeats 2 [.ref 435, .int (iv n)] [] (em V' J z) := by
  intro m
  induction m with
  | zero =>
    intro k V h0 hP hk h
    refine ⟨V, fun _ _ => rfl, fun j j0 j1 => h j j0 (by omega), ?_⟩
    rw [show (k : Int) = n by omega]
  | succ m ih =>
    intro k V h0 hP hk h
    have s1 := hP.2.1 k (by omega) (by omega)
    obtain ⟨V', f1, f2, f3⟩ := ih (k + 1) (sv V 445 (V 436 (17 + k)) k) (by simp (disch := first | decide | omega | (simp (disch := first | decide | omega) only [sv_s, sv_o, ur_s, ur_e, ur_o]; omega)) only [↓reduceIte, iv_add, iv_sub, iv_mul, iv_neg, iv_ltT, iv_ltF, iv_leT, iv_leF, iv_eqT, iv_eqF, iv_div, iv_mod, ↓bnI_s, ↓bnV_s, ↓bnJ_s, ↓bnR_s, rt_e, rt_0, rt_bz, sv_s, sv_o, ur_s, ur_e, ur_o, bz_T, bz_F, nat_eqF, Nat.reduceAdd, h0]) (by simp (disch := first | decide | omega | (simp (disch := first | decide | omega) only [sv_s, sv_o, ur_s, ur_e, ur_o]; omega)) only [↓reduceIte, iv_add, iv_sub, iv_mul, iv_neg, iv_ltT, iv_ltF, iv_leT, iv_leF, iv_eqT, iv_eqF, iv_div, iv_mod, ↓bnI_s, ↓bnV_s, ↓bnJ_s, ↓bnR_s, rt_e, rt_0, rt_bz, sv_s, sv_o, ur_s, ur_e, ur_o, bz_T, bz_F, nat_eqF, Nat.reduceAdd]; exact hP) (by omega) (fun j j0 j1 => by
      rw [sv_s, sv_o (by decide)]
      by_cases q : j = k
      · rw [q, ur_s]
      · -- two seats of unlike ones are unlike
        have s2 := hP.2.1 j j0 (by omega)
        rw [ur_o (fun e => ?_)]
        · exact h j j0 (by omega)
        · have w1 := hP.inj (a := j) (b := k) (by omega) (by omega) e
          exact q w1)
    refine ⟨V', fun a ha => (f1 a ha).trans (sv_o ha), fun j j0 j1 => by have := f2 j j0 j1; rw [sv_o (by decide)] at this; exact this, ?_⟩
    rw [← f3]
    (rw [q_M_spiteOfSeats_2]; simp (disch := first | decide | omega | (simp (disch := first | decide | omega) only [sv_s, sv_o, ur_s, ur_e, ur_o]; omega)) only [↓reduceIte, iv_add, iv_sub, iv_mul, iv_neg, iv_ltT, iv_ltF, iv_leT, iv_leF, iv_eqT, iv_eqF, iv_div, iv_mod, ↓bnI_s, ↓bnV_s, ↓bnJ_s, ↓bnR_s, rt_e, rt_0, rt_bz, sv_s, sv_o, ur_s, ur_e, ur_o, bz_T, bz_F, nat_eqF, Nat.reduceAdd, ↓gR_435_0 F, ↓gR_435_26 F, ↓lI_436 F, ↓lI_437 F, ↓lI_438 F, ↓lI_439 F, ↓lI_440 F, ↓lI_441 F, ↓lI_443 F, ↓lI_444 F, ↓lI_445 F, ↓lI_446 F, ↓lI_447 F, ↓lI_448 F, ↓lI_449 F, ↓lI_450 F, ↓sI_436 F, ↓sI_437 F, ↓sI_438 F, ↓sI_439 F, ↓sI_440 F, ↓sI_441 F, ↓sI_443 F, ↓sI_444 F, ↓sI_445 F, ↓sI_446 F, ↓sI_447 F, ↓sI_448 F, ↓sI_449 F, ↓sI_450 F, il_0, il_1, il_2, il_11, il_17, il_26, h0, Int.natCast_add, Int.natCast_one])
theorem wat_in {A : Int → Int} (h : PS A) {k : Int} (hk : 0 ≤ k ∧ k < A 0) : wat A (A (17 + k)) = k := by
  have s := h.2.1 k hk.1 hk.2
  have w := h.wt_ s
  exact h.inj w.1 hk w.2
theorem y_seats (F : Fix z) {S : Int → Int} (hP : PS (V 436)) (hA : ∀ k, 0 ≤ k → k < 36 → V 436 (35 + k) = S k) (hS : SpO S) : ∃ V', (∀ a, a ≠ 445 → V' a = V a) ∧ cA m_M_spiteOfSeats [.ref 435] (em V J z) = some (.int (iv (spv S (wat (V 436)) (V 436 0))), em V' J z) := by
  have h6 := hP.1
  obtain ⟨V', f1, f2, f3⟩ := y_seats_l (J := J) F (n := V 436 0) h6 (V 436 0).toNat 0 V rfl hP (by omega) (fun j j0 j1 => absurd j1 (by omega))
  have e6 : V' 436 = V 436 := f1 436 (by decide)
  have rw5 : ∀ s, 0 ≤ s → s < V 436 0 → V' 445 s = wat (V 436) s := fun s s0 s1 => by
    have w := hP.wt_ ⟨s0, s1⟩
    have := f2 _ w.1.1 w.1.2
    rw [w.2] at this
    exact this
  have hW : WO (V' 445) (V 436 0) := fun s s0 s1 => by
    rw [rw5 s s0 s1]
    have := (hP.wt_ ⟨s0, s1⟩).1
    omega
  have m := y_M_spiteOf (V := V') (J := J) F (S := S) (n := V 436 0) (by rw [e6]) h6 (fun k k0 k1 => by rw [e6]; exact hA k k0 k1) hS hW
  refine ⟨V', f1, ?_⟩
  rw [q_M_spiteOfSeats, gd_435 F, il_0]
  have f3 : rX m_M_spiteOfSeats m_M_spiteOfSeats 2 [.ref 435, .int (iv 0)] [] (em V J z) = rX m_M_spiteOfSeats m_M_spiteOfSeats 2 [.ref 435, .int (iv (V 436 0))] [] (em V' J z) := f3
  rw [f3, ← spv_c rw5]
  (rw [q_M_spiteOfSeats_2]; simp (disch := first | decide | omega | (simp (disch := first | decide | omega) only [sv_s, sv_o, ur_s, ur_e, ur_o]; omega)) only [↓reduceIte, iv_add, iv_sub, iv_mul, iv_neg, iv_ltT, iv_ltF, iv_leT, iv_leF, iv_eqT, iv_eqF, iv_div, iv_mod, ↓bnI_s, ↓bnV_s, ↓bnJ_s, ↓bnR_s, rt_e, rt_0, rt_bz, sv_s, sv_o, ur_s, ur_e, ur_o, bz_T, bz_F, nat_eqF, Nat.reduceAdd, ↓gR_435_0 F, ↓gR_435_26 F, ↓lI_436 F, ↓lI_437 F, ↓lI_438 F, ↓lI_439 F, ↓lI_440 F, ↓lI_441 F, ↓lI_443 F, ↓lI_444 F, ↓lI_445 F, ↓lI_446 F, ↓lI_447 F, ↓lI_448 F, ↓lI_449 F, ↓lI_450 F, ↓sI_436 F, ↓sI_437 F, ↓sI_438 F, ↓sI_439 F, ↓sI_440 F, ↓sI_441 F, ↓sI_443 F, ↓sI_444 F, ↓sI_445 F, ↓sI_446 F, ↓sI_447 F, ↓sI_448 F, ↓sI_449 F, ↓sI_450 F, il_0, il_1, il_2, il_11, il_17, il_26, e6, m])
theorem core_445 {V V' : Vm} (h : ∀ a, a ≠ 445 → V' a = V a) : core V' = core V := core_2 (fun a ha _ => h a ha) (fun k => scr_T (by omega)) (fun k => scr_T (a := 445) (by omega))
theorem Spi.so {V : Vm} (h : Spi V 9 (V 436)) : SpO (V 18) ∧ ∀ k, 0 ≤ k → k < 36 → V 436 (35 + k) = V 18 k := by
  have e : ∀ k, 0 ≤ k → k < 36 → V 18 k = V 436 (35 + k) := fun k k0 k1 => (h k k0 k1).1
  refine ⟨fun k k0 k1 => ?_, fun k k0 k1 => (e k k0 k1).symm⟩
  rw [e k k0 k1, e _ (by omega) (by omega)]
  exact (h k k0 k1).2
theorem y_around (F : Fix z) {A : Int → Int} (hn : V 10 5 = A 0) (n : 0 ≤ A 0 ∧ A 0 ≤ 6) (R : Tr V 10 (A 0) A) (hS : SpO (V 18)) : cA m_Rounds_spiteAround [.ref 427, .ref 9] (em V J z) = some (.int (iv (spv (V 18) (wat A) (A 0))), em V J z) := by
  have rw4 : ∀ s, 0 ≤ s → s < A 0 → V 14 s = wat A s := fun s s0 s1 => R.at n ⟨s0, s1⟩
  have hW : WO (V 14) (A 0) := fun s s0 s1 => by
    rw [rw4 s s0 s1]
    have := ((R.ps n).wt_ ⟨s0, s1⟩).1
    omega
  have e := y_spiteOf (V := V) (J := J) F (a := 14) (s_14 F) n hS hW
  rw [← spv_c rw4]
  simp (disch := first | decide | omega | (simp (disch := first | decide | omega) only [sv_s, sv_o, ur_s, ur_e, ur_o]; omega)) only [↓reduceIte, iv_add, iv_sub, iv_mul, iv_neg, iv_ltT, iv_ltF, iv_leT, iv_leF, iv_eqT, iv_eqF, iv_div, iv_mod, ↓bnI_s, ↓bnV_s, ↓bnJ_s, ↓bnR_s, rt_e, rt_0, rt_bz, sv_s, sv_o, ur_s, ur_e, ur_o, bz_T, bz_F, nat_eqF, Nat.reduceAdd, ↓q_Rounds_spiteAround, ↓gR_9_0 F, ↓gR_10_3 F, ↓gI_10_5 F, ↓gR_9_3 F, ↓gd_427 F, il_0, il_1, il_2, il_3, il_5, il_7, il_21, ↓gR_10_3 F, ↓gI_10_5 F, hn, e]
end
section
variable {TX : Vm → Zz → Nat → Int → Prop} {I0 : Nat → Nat → Int32} {V J : Vm} {z : Zz}
theorem p_spiteNow (F : Fix z) (g : GI TX I0 V z) : Pq V J z (fun h => cA m_X_spiteNow [.ref 8] h) (fun h => cA m_M_spiteNow [.ref 435] h) := by
  obtain ⟨n1, n2, n3, n4⟩ := g.1.1
  obtain ⟨s1, s2⟩ := Spi.so g.1.2.2.1
  have e1 := y_around (J := J) F (A := V 436) n1 n2 n4 s1
  obtain ⟨V1, f1, f2⟩ := y_seats (V := V) (J := J) F g.ps s2 s1
  exact ⟨_, V, J, V1, J, (by simp (disch := first | decide | omega | (simp (disch := first | decide | omega) only [sv_s, sv_o, ur_s, ur_e, ur_o]; omega)) only [↓reduceIte, iv_add, iv_sub, iv_mul, iv_neg, iv_ltT, iv_ltF, iv_leT, iv_leF, iv_eqT, iv_eqF, iv_div, iv_mod, ↓bnI_s, ↓bnV_s, ↓bnJ_s, ↓bnR_s, rt_e, rt_0, rt_bz, sv_s, sv_o, ur_s, ur_e, ur_o, bz_T, bz_F, nat_eqF, Nat.reduceAdd, ↓q_X_spiteNow, ↓gR_8_6 F, ↓gR_8_0 F, ↓gd_8 F, il_0, il_1, il_6, il_10, il_26, e1]; rfl), rfl, (by simp (disch := first | decide | omega | (simp (disch := first | decide | omega) only [sv_s, sv_o, ur_s, ur_e, ur_o]; omega)) only [↓reduceIte, iv_add, iv_sub, iv_mul, iv_neg, iv_ltT, iv_ltF, iv_leT, iv_leF, iv_eqT, iv_eqF, iv_div, iv_mod, ↓bnI_s, ↓bnV_s, ↓bnJ_s, ↓bnR_s, rt_e, rt_0, rt_bz, sv_s, sv_o, ur_s, ur_e, ur_o, bz_T, bz_F, nat_eqF, Nat.reduceAdd, ↓q_M_spiteNow, ↓gd_435 F, il_0, il_1, il_27, f2]), core_445 f1⟩
end
