/-! SEATINGS: the class's next row and the model's numbered row, as lists -/
def g0 (L : List Nat) (k : Nat) : Nat := L.getD k 0
def riseL (L : List Nat) : Nat → Nat
  | 0 => 0
  | r + 1 => if g0 L (r + 2) < g0 L (r + 1) then riseL L r else r + 1
def highL (L : List Nat) (r : Nat) : Nat → Nat
  | 0 => 0
  | h + 1 => if r < h + 1 ∧ g0 L (h + 1) < g0 L r then highL L r h else h + 1
def exL (L : List Nat) (a b : Nat) : List Nat := (L.set a (g0 L b)).set b (g0 L a)
def revL : Nat → List Nat → Nat → Nat → List Nat
  | 0, L, _, _ => L
  | f + 1, L, lo, hi => if lo < hi then revL f (exL L lo hi) (lo + 1) (hi - 1) else L
def nextL (n : Nat) (L : List Nat) : Option (List Nat) := if riseL L (n - 2) = 0 then none else some (revL 6 (exL L (riseL L (n - 2)) (highL L (riseL L (n - 2)) (n - 1))) (riseL L (n - 2) + 1) (n - 1))
def seqL (n : Nat) : Nat → List Nat
  | 0 => [0, 1, 2, 3, 4, 5]
  | i + 1 => (nextL n (seqL n i)).getD []
def fct : Nat → Nat
  | 0 => 1
  | m + 1 => (m + 1) * fct m
def pickN (used : Nat) : Nat → Nat → Nat → Nat
  | 0, _, k => k
  | f + 1, skip, k => if used / 2 ^ k % 2 = 1 then pickN used f skip (k + 1) else if 0 < skip then pickN used f (skip - 1) (k + 1) else k
def layN (n : Nat) : Nat → Nat → Nat → Nat → List Nat
  | 0, _, _, _ => []
  | m + 1, left, used, s => pickN used 8 (left / fct (n - 1 - s)) 0 :: layN n m (left % fct (n - 1 - s)) (used ||| 2 ^ pickN used 8 (left / fct (n - 1 - s)) 0) (s + 1)
def layL (n i : Nat) : List Nat := 0 :: layN n (n - 1) i 1 1
/-- all rows of so many, one behind the other -/
def rowsL (n : Nat) : Nat → List Nat → List (List Nat)
  | 0, L => [L]
  | f + 1, L => match nextL n L with
    | none => [L]
    | some M => L :: rowsL n f M
def chkR1 (n : Nat) (R : List (List Nat)) : Bool := Nat.beq R.length (fct (n - 1)) && (List.range R.length).all fun i => Nat.beq (R.getD i []).length 6 && ((R.getD i []).all fun x => Nat.blt x 6) && (Nat.beq n 0 || decide (layL n i = (R.getD i []).take n)) && (if i + 1 < R.length then decide (nextL n (R.getD i []) = some (R.getD (i + 1) [])) else decide (nextL n (R.getD i []) = none))
def chkR : Bool := (List.range 7).all fun n => chkR1 n (rowsL n 200 [0, 1, 2, 3, 4, 5]) && decide ((rowsL n 200 [0, 1, 2, 3, 4, 5]).getD 0 [] = [0, 1, 2, 3, 4, 5])
set_option maxRecDepth 100000 in
theorem chk_R : chkR = true := by decide +kernel
/-- the i-th row of n -/
def rwL (n i : Nat) : List Nat := (rowsL n 200 [0, 1, 2, 3, 4, 5]).getD i []
theorem R_at {n : Nat} (hn : n ≤ 6) : rwL n 0 = [0, 1, 2, 3, 4, 5] ∧ ∀ i, i < fct (n - 1) → (rwL n i).length = 6 ∧ (∀ k, k < 6 → g0 (rwL n i) k < 6) ∧ (0 < n → layL n i = (rwL n i).take n) ∧ (i + 1 < fct (n - 1) → nextL n (rwL n i) = some (rwL n (i + 1))) ∧ (i + 1 = fct (n - 1) → nextL n (rwL n i) = none) := by
  have q := List.all_eq_true.mp chk_R n (mem_rg (by omega))
  simp only [Bool.and_eq_true, decide_eq_true_eq] at q
  obtain ⟨q1, q2⟩ := q
  refine ⟨q2, fun i hi => ?_⟩
  unfold chkR1 at q1
  simp only [Bool.and_eq_true] at q1
  obtain ⟨q3, q4⟩ := q1
  have q3 := Nat.eq_of_beq_eq_true q3
  have t := List.all_eq_true.mp q4 i (mem_rg (by rw [q3]; exact hi))
  simp only [Bool.and_eq_true, Bool.or_eq_true, decide_eq_true_eq] at t
  obtain ⟨⟨⟨t1, t2⟩, t3⟩, t4⟩ := t
  have t1 := Nat.eq_of_beq_eq_true t1
  refine ⟨t1, fun k hk => ?_, fun h0 => ?_, fun h => ?_, fun h => ?_⟩
  · exact Nat.blt_eq.mp (List.all_eq_true.mp t2 _ (getD_mem (by rw [t1]; exact hk)))
  · rcases t3 with t3 | t3
    · exact absurd (Nat.eq_of_beq_eq_true t3) (by omega)
    · exact t3
  · rw [if_pos (by rw [q3]; exact h)] at t4
    exact of_decide_eq_true t4
  · rw [if_neg (by rw [q3]; omega)] at t4
    exact of_decide_eq_true t4
theorem fct_le {n : Nat} (hn : n ≤ 6) : 1 ≤ fct (n - 1) ∧ fct (n - 1) ≤ 120 := by
  rcases (show n = 0 ∨ n = 1 ∨ n = 2 ∨ n = 3 ∨ n = 4 ∨ n = 5 ∨ n = 6 by omega) with rfl | rfl | rfl | rfl | rfl | rfl | rfl <;> decide
/-- the class's row holds the list -/
def R6 (V : Vm) (L : List Nat) : Prop := L.length = 6 ∧ (∀ k : Nat, k < 6 → g0 L k < 6) ∧ ∀ k : Nat, k < 6 → V 428 k = (g0 L k : Nat)
theorem g0_set {L : List Nat} {a x k : Nat} (ha : a < L.length) : g0 (L.set a x) k = if k = a then x else g0 L k := by
  unfold g0
  rw [List.getD_eq_getElem?_getD, List.getD_eq_getElem?_getD, List.getElem?_set]
  by_cases q : k = a
  · rw [if_pos q.symm, if_pos q, if_pos ha]; rfl
  · rw [if_neg (fun e => q e.symm), if_neg q]
section
variable {V J : Vm} {z : Zz}
theorem R6.ex {L : List Nat} (h : R6 V L) {a b : Nat} (ha : a < 6) (hb : b < 6) : R6 (sv (sv V 428 a (V 428 b)) 428 b (V 428 a)) (exL L a b) := by
  obtain ⟨h1, h2, h3⟩ := h
  have e : ∀ k, g0 (exL L a b) k = if k = b then g0 L a else if k = a then g0 L b else g0 L k := fun k => by
    unfold exL
    rw [g0_set (by rw [List.length_set]; omega), g0_set (by omega)]
  refine ⟨by unfold exL; rw [List.length_set, List.length_set]; exact h1, fun k hk => ?_, fun k hk => ?_⟩
  · rw [e k]
    have := h2 a ha
    have := h2 b hb
    have := h2 k hk
    split
    · omega
    · split <;> omega
  · rw [e k, sv_s, sv_s]
    by_cases q : k = b
    · rw [if_pos q, q, ur_s, h3 a ha]
    · rw [if_neg q, ur_o (by omega)]
      by_cases q2 : k = a
      · rw [if_pos q2, q2, ur_s, h3 b hb]
      · rw [if_neg q2, ur_o (by omega), h3 k hk]
theorem y_rise (F : Fix z) {L : List Nat} (h : R6 V L) {n : Int} (hn : -10 ≤ n ∧ n ≤ 10) : ∀ r : Nat, r ≤ 4 → rX m_Rounds_turnToNextRow m_Rounds_turnToNextRow 4 [.ref 427, .int (iv n), .int (iv r), dd, dd, dd] [] (em V J z) = if riseL L r = 0 then some (.int (iv 0), em V J z) else rX m_Rounds_turnToNextRow m_Rounds_turnToNextRow 47 [.ref 427, .int (iv n), .int (iv (riseL L r : Nat)), .int (iv (n - 1)), dd, dd] [] (em V J z) := by
  intro r
  induction r with
  | zero =>
    intro _
    rw [if_pos (show riseL L 0 = 0 from rfl)]
    (rw [q_Rounds_turnToNextRow_4]; simp (disch := first | decide | omega | (simp (disch := first | decide | omega) only [sv_s, sv_o, ur_s, ur_e, ur_o]; omega)) only [↓reduceIte, iv_add, iv_sub, iv_mul, iv_neg, iv_ltT, iv_ltF, iv_leT, iv_leF, iv_eqT, iv_eqF, iv_div, iv_mod, ↓bnI_s, ↓bnV_s, ↓bnJ_s, ↓bnR_s, rt_e, rt_0, rt_bz, sv_s, sv_o, ur_s, ur_e, ur_o, bz_T, bz_F, nat_eqF, Nat.reduceAdd, ↓gR_427_0 F, il_0, il_1, il_4, il_5, il_47])
  | succ r ih =>
    intro hr
    have a := h.2.2 (r + 1) (by omega)
    have b := h.2.2 (r + 2) (by omega)
    have ra := h.2.1 (r + 1) (by omega)
    have rb := h.2.1 (r + 2) (by omega)
    rw [show (((r + 2 : Nat)) : Int) = ((r + 1 : Nat) : Int) + 1 by omega] at b
    have un : riseL L (r + 1) = if g0 L (r + 2) < g0 L (r + 1) then riseL L r else r + 1 := rfl
    rw [un]
    generalize hR : ((r + 1 : Nat) : Int) = R at *
    by_cases q : g0 L (r + 2) < g0 L (r + 1)
    · rw [if_pos q, ← ih (by omega), show (r : Int) = R + -1 by omega]
      (rw [q_Rounds_turnToNextRow_4]; simp (disch := first | decide | omega | (simp (disch := first | decide | omega) only [sv_s, sv_o, ur_s, ur_e, ur_o]; omega)) only [↓reduceIte, iv_add, iv_sub, iv_mul, iv_neg, iv_ltT, iv_ltF, iv_leT, iv_leF, iv_eqT, iv_eqF, iv_div, iv_mod, ↓bnI_s, ↓bnV_s, ↓bnJ_s, ↓bnR_s, rt_e, rt_0, rt_bz, sv_s, sv_o, ur_s, ur_e, ur_o, bz_T, bz_F, nat_eqF, Nat.reduceAdd, ↓gR_427_0 F, il_0, il_1, il_4, il_5, il_47, y_get (s_428 F) (by decide), rd_in, a, b])
    · rw [if_neg q, if_neg (by omega), hR]
      (rw [q_Rounds_turnToNextRow_4]; simp (disch := first | decide | omega | (simp (disch := first | decide | omega) only [sv_s, sv_o, ur_s, ur_e, ur_o]; omega)) only [↓reduceIte, iv_add, iv_sub, iv_mul, iv_neg, iv_ltT, iv_ltF, iv_leT, iv_leF, iv_eqT, iv_eqF, iv_div, iv_mod, ↓bnI_s, ↓bnV_s, ↓bnJ_s, ↓bnR_s, rt_e, rt_0, rt_bz, sv_s, sv_o, ur_s, ur_e, ur_o, bz_T, bz_F, nat_eqF, Nat.reduceAdd, ↓gR_427_0 F, il_0, il_1, il_4, il_5, il_47, y_get (s_428 F) (by decide), rd_in, a, b])
theorem y_high (F : Fix z) {L : List Nat} (h : R6 V L) {n : Int} (hn : -10 ≤ n ∧ n ≤ 10) {r : Nat} (hr : 1 ≤ r ∧ r ≤ 4) : ∀ k : Nat, r ≤ k → k ≤ 5 → rX m_Rounds_turnToNextRow m_Rounds_turnToNextRow 47 [.ref 427, .int (iv n), .int (iv r), .int (iv k), dd, dd] [] (em V J z) = rX m_Rounds_turnToNextRow m_Rounds_turnToNextRow 77 [.ref 427, .int (iv n), .int (iv r), .int (iv (highL L r k : Nat)), dd, dd] [] (em V J z) ∧ r ≤ highL L r k ∧ highL L r k ≤ 5 := by
  intro k
  induction k with
  | zero => intro h1 _; exact absurd h1 (by omega)
  | succ k ih =>
    intro h1 h2
    have a := h.2.2 (k + 1) (by omega)
    have b := h.2.2 r (by omega)
    have ra := h.2.1 (k + 1) (by omega)
    have rb := h.2.1 r (by omega)
    have un : highL L r (k + 1) = if r < k + 1 ∧ g0 L (k + 1) < g0 L r then highL L r k else k + 1 := rfl
    rw [un]
    generalize hR : ((k + 1 : Nat) : Int) = R at *
    by_cases q1 : r < k + 1
    · by_cases q : g0 L (k + 1) < g0 L r
      · obtain ⟨i1, i2, i3⟩ := ih (by omega) (by omega)
        rw [if_pos ⟨q1, q⟩]
        refine ⟨?_, i2, i3⟩
        rw [← i1, show (k : Int) = R + -1 by omega]
        (rw [q_Rounds_turnToNextRow_47]; simp (disch := first | decide | omega | (simp (disch := first | decide | omega) only [sv_s, sv_o, ur_s, ur_e, ur_o]; omega)) only [↓reduceIte, iv_add, iv_sub, iv_mul, iv_neg, iv_ltT, iv_ltF, iv_leT, iv_leF, iv_eqT, iv_eqF, iv_div, iv_mod, ↓bnI_s, ↓bnV_s, ↓bnJ_s, ↓bnR_s, rt_e, rt_0, rt_bz, sv_s, sv_o, ur_s, ur_e, ur_o, bz_T, bz_F, nat_eqF, Nat.reduceAdd, ↓gR_427_0 F, il_0, il_1, il_5, il_47, il_77, y_get (s_428 F) (by decide), rd_in, a, b])
      · rw [if_neg (fun e => q e.2), hR]
        refine ⟨?_, by omega, by omega⟩
        (rw [q_Rounds_turnToNextRow_47]; simp (disch := first | decide | omega | (simp (disch := first | decide | omega) only [sv_s, sv_o, ur_s, ur_e, ur_o]; omega)) only [↓reduceIte, iv_add, iv_sub, iv_mul, iv_neg, iv_ltT, iv_ltF, iv_leT, iv_leF, iv_eqT, iv_eqF, iv_div, iv_mod, ↓bnI_s, ↓bnV_s, ↓bnJ_s, ↓bnR_s, rt_e, rt_0, rt_bz, sv_s, sv_o, ur_s, ur_e, ur_o, bz_T, bz_F, nat_eqF, Nat.reduceAdd, ↓gR_427_0 F, il_0, il_1, il_5, il_47, il_77, y_get (s_428 F) (by decide), rd_in, a, b])
    · rw [if_neg (fun e => q1 e.1), hR]
      refine ⟨?_, by omega, by omega⟩
      (rw [q_Rounds_turnToNextRow_47]; simp (disch := first | decide | omega | (simp (disch := first | decide | omega) only [sv_s, sv_o, ur_s, ur_e, ur_o]; omega)) only [↓reduceIte, iv_add, iv_sub, iv_mul, iv_neg, iv_ltT, iv_ltF, iv_leT, iv_leF, iv_eqT, iv_eqF, iv_div, iv_mod, ↓bnI_s, ↓bnV_s, ↓bnJ_s, ↓bnR_s, rt_e, rt_0, rt_bz, sv_s, sv_o, ur_s, ur_e, ur_o, bz_T, bz_F, nat_eqF, Nat.reduceAdd, ↓gR_427_0 F, il_0, il_1, il_5, il_47, il_77])
theorem y_rev (F : Fix z) : ∀ (f : Nat) (V : Vm) (L : List Nat) (lo hi : Nat), R6 V L → hi < 6 → hi ≤ lo + f → lo ≤ 10 → ∃ V', (∀ c, c ≠ 428 → V' c = V c) ∧ R6 V' (revL f L lo hi) ∧ rX m_Rounds_turnToNextRow m_Rounds_turnToNextRow 93 [.ref 427, dd, dd, dd, .int (iv hi), .int (iv lo)] [] (em V J z) = some (.int (iv 1), em V' J z) := by
  intro f
  induction f with
  | zero =>
    intro V L lo hi h h1 h2 h3
    refine ⟨V, fun _ _ => rfl, h, ?_⟩
    (rw [q_Rounds_turnToNextRow_93]; simp (disch := first | decide | omega | (simp (disch := first | decide | omega) only [sv_s, sv_o, ur_s, ur_e, ur_o]; omega)) only [↓reduceIte, iv_add, iv_sub, iv_mul, iv_neg, iv_ltT, iv_ltF, iv_leT, iv_leF, iv_eqT, iv_eqF, iv_div, iv_mod, ↓bnI_s, ↓bnV_s, ↓bnJ_s, ↓bnR_s, rt_e, rt_0, rt_bz, sv_s, sv_o, ur_s, ur_e, ur_o, bz_T, bz_F, nat_eqF, Nat.reduceAdd, il_0, il_1, il_93])
  | succ f ih =>
    intro V L lo hi h h1 h2 h3
    have un : revL (f + 1) L lo hi = if lo < hi then revL f (exL L lo hi) (lo + 1) (hi - 1) else L := rfl
    rw [un]
    by_cases q : lo < hi
    · rw [if_pos q]
      have ex := y_exchange (V := V) (J := J) F (a := lo) (b := hi) (by omega) (by omega)
      obtain ⟨V', f1, f2, f3⟩ := ih _ _ (lo + 1) (hi - 1) (h.ex (a := lo) (b := hi) (by omega) h1) (by omega) (by omega) (by omega)
      refine ⟨V', fun c hc => (f1 c hc).trans (by rw [sv_o hc, sv_o hc]), f2, ?_⟩
      rw [← f3, show ((hi - 1 : Nat) : Int) = (hi : Int) + -1 by omega]
      (rw [q_Rounds_turnToNextRow_93]; simp (disch := first | decide | omega | (simp (disch := first | decide | omega) only [sv_s, sv_o, ur_s, ur_e, ur_o]; omega)) only [↓reduceIte, iv_add, iv_sub, iv_mul, iv_neg, iv_ltT, iv_ltF, iv_leT, iv_leF, iv_eqT, iv_eqF, iv_div, iv_mod, ↓bnI_s, ↓bnV_s, ↓bnJ_s, ↓bnR_s, rt_e, rt_0, rt_bz, sv_s, sv_o, ur_s, ur_e, ur_o, bz_T, bz_F, nat_eqF, Nat.reduceAdd, il_0, il_1, il_93, ex, Int.natCast_add, Int.natCast_one])
    · rw [if_neg q]
      refine ⟨V, fun _ _ => rfl, h, ?_⟩
      (rw [q_Rounds_turnToNextRow_93]; simp (disch := first | decide | omega | (simp (disch := first | decide | omega) only [sv_s, sv_o, ur_s, ur_e, ur_o]; omega)) only [↓reduceIte, iv_add, iv_sub, iv_mul, iv_neg, iv_ltT, iv_ltF, iv_leT, iv_leF, iv_eqT, iv_eqF, iv_div, iv_mod, ↓bnI_s, ↓bnV_s, ↓bnJ_s, ↓bnR_s, rt_e, rt_0, rt_bz, sv_s, sv_o, ur_s, ur_e, ur_o, bz_T, bz_F, nat_eqF, Nat.reduceAdd, il_0, il_1, il_93])
theorem y_next (F : Fix z) {L : List Nat} (h : R6 V L) {n : Nat} (hn : n ≤ 6) : ∃ V', (∀ c, c ≠ 428 → V' c = V c) ∧ ((nextL n L = none ∧ V' = V ∧ cA m_Rounds_turnToNextRow [.ref 427, .int (iv n)] (em V J z) = some (.int (iv 0), em V' J z)) ∨ ∃ M, nextL n L = some M ∧ R6 V' M ∧ cA m_Rounds_turnToNextRow [.ref 427, .int (iv n)] (em V J z) = some (.int (iv 1), em V' J z)) := by
  have st : cA m_Rounds_turnToNextRow [.ref 427, .int (iv n)] (em V J z) = rX m_Rounds_turnToNextRow m_Rounds_turnToNextRow 4 [.ref 427, .int (iv n), .int (iv ((n : Int) - 2)), dd, dd, dd] [] (em V J z) := by
    simp (disch := first | decide | omega | (simp (disch := first | decide | omega) only [sv_s, sv_o, ur_s, ur_e, ur_o]; omega)) only [↓reduceIte, iv_add, iv_sub, iv_mul, iv_neg, iv_ltT, iv_ltF, iv_leT, iv_leF, iv_eqT, iv_eqF, iv_div, iv_mod, ↓bnI_s, ↓bnV_s, ↓bnJ_s, ↓bnR_s, rt_e, rt_0, rt_bz, sv_s, sv_o, ur_s, ur_e, ur_o, bz_T, bz_F, nat_eqF, Nat.reduceAdd, ↓q_Rounds_turnToNextRow, ↓gd_427 F, il_0, il_1, il_2, il_4, il_21]
  rw [st]
  by_cases q2 : n < 2
  · refine ⟨V, fun _ _ => rfl, Or.inl ⟨?_, rfl, ?_⟩⟩
    · unfold nextL
      rw [show n - 2 = 0 by omega, if_pos (show riseL L 0 = 0 from rfl)]
    · (rw [q_Rounds_turnToNextRow_4]; simp (disch := first | decide | omega | (simp (disch := first | decide | omega) only [sv_s, sv_o, ur_s, ur_e, ur_o]; omega)) only [↓reduceIte, iv_add, iv_sub, iv_mul, iv_neg, iv_ltT, iv_ltF, iv_leT, iv_leF, iv_eqT, iv_eqF, iv_div, iv_mod, ↓bnI_s, ↓bnV_s, ↓bnJ_s, ↓bnR_s, rt_e, rt_0, rt_bz, sv_s, sv_o, ur_s, ur_e, ur_o, bz_T, bz_F, nat_eqF, Nat.reduceAdd, ↓gR_427_0 F, il_0, il_1, il_4, il_5, il_47])
  · rw [show (n : Int) - 2 = ((n - 2 : Nat) : Int) by omega, y_rise F h (by omega) (n - 2) (by omega)]
    by_cases q : riseL L (n - 2) = 0
    · rw [if_pos q]
      exact ⟨V, fun _ _ => rfl, Or.inl ⟨by unfold nextL; rw [if_pos q], rfl, rfl⟩⟩
    · have rl : ∀ r, riseL L r ≤ r := by
        intro r
        induction r with
        | zero => exact Nat.le_refl 0
        | succ r ih => show (if g0 L (r + 2) < g0 L (r + 1) then riseL L r else r + 1) ≤ r + 1; split <;> omega
      have r1 := rl (n - 2)
      rw [if_neg q]
      obtain ⟨i1, i2, i3⟩ := y_high (V := V) (J := J) F h (n := n) (by omega) (r := riseL L (n - 2)) (by omega) (n - 1) (by omega) (by omega)
      have ex := y_exchange (V := V) (J := J) F (a := (riseL L (n - 2) : Nat)) (b := (highL L (riseL L (n - 2)) (n - 1) : Nat)) (by omega) (by omega)
      obtain ⟨V', f1, f2, f3⟩ := y_rev (J := J) F 6 _ _ (riseL L (n - 2) + 1) (n - 1) (h.ex (a := riseL L (n - 2)) (b := highL L (riseL L (n - 2)) (n - 1)) (by omega) (by omega)) (by omega) (by omega) (by omega)
      refine ⟨V', fun c hc => (f1 c hc).trans (by rw [sv_o hc, sv_o hc]), Or.inr ⟨_, by unfold nextL; rw [if_neg q], f2, ?_⟩⟩
      rw [show (n : Int) - 1 = ((n - 1 : Nat) : Int) by omega, i1, ← f3]
      (rw [q_Rounds_turnToNextRow_77]; simp (disch := first | decide | omega | (simp (disch := first | decide | omega) only [sv_s, sv_o, ur_s, ur_e, ur_o]; omega)) only [↓reduceIte, iv_add, iv_sub, iv_mul, iv_neg, iv_ltT, iv_ltF, iv_leT, iv_leF, iv_eqT, iv_eqF, iv_div, iv_mod, ↓bnI_s, ↓bnV_s, ↓bnJ_s, ↓bnR_s, rt_e, rt_0, rt_bz, sv_s, sv_o, ur_s, ur_e, ur_o, bz_T, bz_F, nat_eqF, Nat.reduceAdd, il_0, il_1, il_77, il_93, ex, show (n : Int) - 1 = ((n - 1 : Nat) : Int) by omega, Int.natCast_add, Int.natCast_one])
end
