/-! the steps: kept in the row -/
section
variable {V J : Vm} {z : Zz}
theorem y_kp13 (F : Fix z) : ∀ (m : Nat) (V : Vm) (i : Int), 0 ≤ i → i + m = 1218 → ∃ V', rX m_M_keep m_M_keep 13 [.ref 435, .int (iv i), dd] [] (em V J z) = rX m_M_keep m_M_keep 13 [.ref 435, .int (iv 1218), dd] [] (em V' J z) ∧ (∀ a, a ≠ 436 → V' a = V a) ∧ ∀ k, V' 436 k = if 165 + i ≤ k ∧ k < 1383 then V 436 (k + 42) else V 436 k := by
  intro m
  induction m with
  | zero =>
    intro V i i0 hi
    have hi : i = 1218 := by omega
    subst hi
    exact ⟨V, rfl, fun _ _ => rfl, fun k => by rw [if_neg (by omega)]⟩
  | succ m ih =>
    intro V i i0 hi
    have lp : rX m_M_keep m_M_keep 13 [.ref 435, .int (iv i), dd] [] (em V J z) = rX m_M_keep m_M_keep 13 [.ref 435, .int (iv (i + 1)), dd] [] (em (sv V 436 (165 + i) (V 436 (207 + i))) J z) := by
      (rw [q_M_keep_13]; simp (disch := first | decide | omega | (simp (disch := first | decide | omega) only [sv_s, sv_o, ur_s, ur_e, ur_o]; omega)) only [↓reduceIte, iv_add, iv_sub, iv_mul, iv_neg, iv_ltT, iv_ltF, iv_leT, iv_leF, iv_eqT, iv_eqF, iv_div, iv_mod, ↓bnI_s, ↓bnV_s, ↓bnJ_s, ↓bnR_s, rt_e, rt_0, rt_bz, sv_s, sv_o, ur_s, ur_e, ur_o, bz_T, bz_F, nat_eqF, Nat.reduceAdd, ↓gR_435_0 F, ↓lI_436 F, ↓lI_437 F, ↓lI_438 F, ↓lI_439 F, ↓lI_440 F, ↓lI_441 F, ↓lI_443 F, ↓lI_444 F, ↓lI_445 F, ↓lI_446 F, ↓lI_447 F, ↓lI_448 F, ↓lI_449 F, ↓lI_450 F, ↓sI_436 F, ↓sI_437 F, ↓sI_438 F, ↓sI_439 F, ↓sI_440 F, ↓sI_441 F, ↓sI_443 F, ↓sI_444 F, ↓sI_445 F, ↓sI_446 F, ↓sI_447 F, ↓sI_448 F, ↓sI_449 F, ↓sI_450 F, il_0, il_1, il_3, il_11, il_13, il_56, il_165, il_207, il_1218])
    obtain ⟨V', e1, e2, e3⟩ := ih (sv V 436 (165 + i) (V 436 (207 + i))) (i + 1) (by omega) (by omega)
    refine ⟨V', lp.trans e1, fun a h1 => by rw [e2 a h1]; simp (disch := first | decide | omega | (simp (disch := first | decide | omega) only [sv_s, sv_o, ur_s, ur_e, ur_o]; omega)) only [↓reduceIte, iv_add, iv_sub, iv_mul, iv_neg, iv_ltT, iv_ltF, iv_leT, iv_leF, iv_eqT, iv_eqF, iv_div, iv_mod, ↓bnI_s, ↓bnV_s, ↓bnJ_s, ↓bnR_s, rt_e, rt_0, rt_bz, sv_s, sv_o, ur_s, ur_e, ur_o, bz_T, bz_F, nat_eqF, Nat.reduceAdd], fun k => ?_⟩
    rw [e3 k]
    by_cases q : k = 165 + i
    · subst q
      rw [if_neg (by omega), if_pos (by omega), show (165 : Int) + i + 42 = 207 + i by omega]
      simp (disch := first | decide | omega | (simp (disch := first | decide | omega) only [sv_s, sv_o, ur_s, ur_e, ur_o]; omega)) only [↓reduceIte, iv_add, iv_sub, iv_mul, iv_neg, iv_ltT, iv_ltF, iv_leT, iv_leF, iv_eqT, iv_eqF, iv_div, iv_mod, ↓bnI_s, ↓bnV_s, ↓bnJ_s, ↓bnR_s, rt_e, rt_0, rt_bz, sv_s, sv_o, ur_s, ur_e, ur_o, bz_T, bz_F, nat_eqF, Nat.reduceAdd]
    · by_cases w : 165 + (i + 1) ≤ k ∧ k < 1383
      · rw [if_pos w, if_pos (by omega)]; simp (disch := first | decide | omega | (simp (disch := first | decide | omega) only [sv_s, sv_o, ur_s, ur_e, ur_o]; omega)) only [↓reduceIte, iv_add, iv_sub, iv_mul, iv_neg, iv_ltT, iv_ltF, iv_leT, iv_leF, iv_eqT, iv_eqF, iv_div, iv_mod, ↓bnI_s, ↓bnV_s, ↓bnJ_s, ↓bnR_s, rt_e, rt_0, rt_bz, sv_s, sv_o, ur_s, ur_e, ur_o, bz_T, bz_F, nat_eqF, Nat.reduceAdd]
      · rw [if_neg w, if_neg (by omega)]; simp (disch := first | decide | omega | (simp (disch := first | decide | omega) only [sv_s, sv_o, ur_s, ur_e, ur_o]; omega)) only [↓reduceIte, iv_add, iv_sub, iv_mul, iv_neg, iv_ltT, iv_ltF, iv_leT, iv_leF, iv_eqT, iv_eqF, iv_div, iv_mod, ↓bnI_s, ↓bnV_s, ↓bnJ_s, ↓bnR_s, rt_e, rt_0, rt_bz, sv_s, sv_o, ur_s, ur_e, ur_o, bz_T, bz_F, nat_eqF, Nat.reduceAdd]
theorem y_kp84 (F : Fix z) {b : Int} (hb : 165 ≤ b ∧ b ≤ 1383) : ∀ (m : Nat) (V : Vm) (i : Int), 0 ≤ i → i + m = 16 → ∃ V', rX m_M_keep m_M_keep 84 [.ref 435, .int (iv b), .int (iv i)] [] (em V J z) = rX m_M_keep m_M_keep 117 [.ref 435, .int (iv b), .int (iv 0)] [] (em V' J z) ∧ (∀ a, a ≠ 436 → V' a = V a) ∧ ∀ k, V' 436 k = if b + 1 + i ≤ k ∧ k < b + 17 then V 436 (k - b + 6) else V 436 k := by
  intro m
  induction m with
  | zero =>
    intro V i i0 hi
    have hi : i = 16 := by omega
    subst hi
    exact ⟨V, (by (rw [q_M_keep_84]; simp (disch := first | decide | omega | (simp (disch := first | decide | omega) only [sv_s, sv_o, ur_s, ur_e, ur_o]; omega)) only [↓reduceIte, iv_add, iv_sub, iv_mul, iv_neg, iv_ltT, iv_ltF, iv_leT, iv_leF, iv_eqT, iv_eqF, iv_div, iv_mod, ↓bnI_s, ↓bnV_s, ↓bnJ_s, ↓bnR_s, rt_e, rt_0, rt_bz, sv_s, sv_o, ur_s, ur_e, ur_o, bz_T, bz_F, nat_eqF, Nat.reduceAdd, ↓gR_435_0 F, ↓lI_436 F, ↓lI_437 F, ↓lI_438 F, ↓lI_439 F, ↓lI_440 F, ↓lI_441 F, ↓lI_443 F, ↓lI_444 F, ↓lI_445 F, ↓lI_446 F, ↓lI_447 F, ↓lI_448 F, ↓lI_449 F, ↓lI_450 F, ↓sI_436 F, ↓sI_437 F, ↓sI_438 F, ↓sI_439 F, ↓sI_440 F, ↓sI_441 F, ↓sI_443 F, ↓sI_444 F, ↓sI_445 F, ↓sI_446 F, ↓sI_447 F, ↓sI_448 F, ↓sI_449 F, ↓sI_450 F, il_0, il_1, il_7, il_11, il_16, il_84, il_117])), fun _ _ => rfl, fun k => by rw [if_neg (by omega)]⟩
  | succ m ih =>
    intro V i i0 hi
    have lp : rX m_M_keep m_M_keep 84 [.ref 435, .int (iv b), .int (iv i)] [] (em V J z) = rX m_M_keep m_M_keep 84 [.ref 435, .int (iv b), .int (iv (i + 1))] [] (em (sv V 436 (b + 1 + i) (V 436 (7 + i))) J z) := by
      (rw [q_M_keep_84]; simp (disch := first | decide | omega | (simp (disch := first | decide | omega) only [sv_s, sv_o, ur_s, ur_e, ur_o]; omega)) only [↓reduceIte, iv_add, iv_sub, iv_mul, iv_neg, iv_ltT, iv_ltF, iv_leT, iv_leF, iv_eqT, iv_eqF, iv_div, iv_mod, ↓bnI_s, ↓bnV_s, ↓bnJ_s, ↓bnR_s, rt_e, rt_0, rt_bz, sv_s, sv_o, ur_s, ur_e, ur_o, bz_T, bz_F, nat_eqF, Nat.reduceAdd, ↓gR_435_0 F, ↓lI_436 F, ↓lI_437 F, ↓lI_438 F, ↓lI_439 F, ↓lI_440 F, ↓lI_441 F, ↓lI_443 F, ↓lI_444 F, ↓lI_445 F, ↓lI_446 F, ↓lI_447 F, ↓lI_448 F, ↓lI_449 F, ↓lI_450 F, ↓sI_436 F, ↓sI_437 F, ↓sI_438 F, ↓sI_439 F, ↓sI_440 F, ↓sI_441 F, ↓sI_443 F, ↓sI_444 F, ↓sI_445 F, ↓sI_446 F, ↓sI_447 F, ↓sI_448 F, ↓sI_449 F, ↓sI_450 F, il_0, il_1, il_7, il_11, il_16, il_84, il_117])
    obtain ⟨V', e1, e2, e3⟩ := ih (sv V 436 (b + 1 + i) (V 436 (7 + i))) (i + 1) (by omega) (by omega)
    refine ⟨V', lp.trans e1, fun a h1 => by rw [e2 a h1]; simp (disch := first | decide | omega | (simp (disch := first | decide | omega) only [sv_s, sv_o, ur_s, ur_e, ur_o]; omega)) only [↓reduceIte, iv_add, iv_sub, iv_mul, iv_neg, iv_ltT, iv_ltF, iv_leT, iv_leF, iv_eqT, iv_eqF, iv_div, iv_mod, ↓bnI_s, ↓bnV_s, ↓bnJ_s, ↓bnR_s, rt_e, rt_0, rt_bz, sv_s, sv_o, ur_s, ur_e, ur_o, bz_T, bz_F, nat_eqF, Nat.reduceAdd], fun k => ?_⟩
    rw [e3 k]
    by_cases q : k = b + 1 + i
    · subst q
      rw [if_neg (by omega), if_pos (by omega), show b + 1 + i - b + 6 = 7 + i by omega]
      simp (disch := first | decide | omega | (simp (disch := first | decide | omega) only [sv_s, sv_o, ur_s, ur_e, ur_o]; omega)) only [↓reduceIte, iv_add, iv_sub, iv_mul, iv_neg, iv_ltT, iv_ltF, iv_leT, iv_leF, iv_eqT, iv_eqF, iv_div, iv_mod, ↓bnI_s, ↓bnV_s, ↓bnJ_s, ↓bnR_s, rt_e, rt_0, rt_bz, sv_s, sv_o, ur_s, ur_e, ur_o, bz_T, bz_F, nat_eqF, Nat.reduceAdd]
    · by_cases w : b + 1 + (i + 1) ≤ k ∧ k < b + 17
      · rw [if_pos w, if_pos (by omega)]; simp (disch := first | decide | omega | (simp (disch := first | decide | omega) only [sv_s, sv_o, ur_s, ur_e, ur_o]; omega)) only [↓reduceIte, iv_add, iv_sub, iv_mul, iv_neg, iv_ltT, iv_ltF, iv_leT, iv_leF, iv_eqT, iv_eqF, iv_div, iv_mod, ↓bnI_s, ↓bnV_s, ↓bnJ_s, ↓bnR_s, rt_e, rt_0, rt_bz, sv_s, sv_o, ur_s, ur_e, ur_o, bz_T, bz_F, nat_eqF, Nat.reduceAdd]
      · rw [if_neg w, if_neg (by omega)]; simp (disch := first | decide | omega | (simp (disch := first | decide | omega) only [sv_s, sv_o, ur_s, ur_e, ur_o]; omega)) only [↓reduceIte, iv_add, iv_sub, iv_mul, iv_neg, iv_ltT, iv_ltF, iv_leT, iv_leF, iv_eqT, iv_eqF, iv_div, iv_mod, ↓bnI_s, ↓bnV_s, ↓bnJ_s, ↓bnR_s, rt_e, rt_0, rt_bz, sv_s, sv_o, ur_s, ur_e, ur_o, bz_T, bz_F, nat_eqF, Nat.reduceAdd]
theorem y_kp117 (F : Fix z) {b : Int} (hb : 165 ≤ b ∧ b ≤ 1383) : ∀ (m : Nat) (V : Vm) (i : Int), 0 ≤ i → i + m = 25 → ∃ V', rX m_M_keep m_M_keep 117 [.ref 435, .int (iv b), .int (iv i)] [] (em V J z) = some (.null, em (sv V' 436 3 (V' 436 3 + 1)) J z) ∧ (∀ a, a ≠ 436 → V' a = V a) ∧ ∀ k, V' 436 k = if b + 17 + i ≤ k ∧ k < b + 42 then V 436 (k - b + 1408) else V 436 k := by
  intro m
  induction m with
  | zero =>
    intro V i i0 hi
    have hi : i = 25 := by omega
    subst hi
    exact ⟨V, (by (rw [q_M_keep_117]; simp (disch := first | decide | omega | (simp (disch := first | decide | omega) only [sv_s, sv_o, ur_s, ur_e, ur_o]; omega)) only [↓reduceIte, iv_add, iv_sub, iv_mul, iv_neg, iv_ltT, iv_ltF, iv_leT, iv_leF, iv_eqT, iv_eqF, iv_div, iv_mod, ↓bnI_s, ↓bnV_s, ↓bnJ_s, ↓bnR_s, rt_e, rt_0, rt_bz, sv_s, sv_o, ur_s, ur_e, ur_o, bz_T, bz_F, nat_eqF, Nat.reduceAdd, ↓gR_435_0 F, ↓lI_436 F, ↓lI_437 F, ↓lI_438 F, ↓lI_439 F, ↓lI_440 F, ↓lI_441 F, ↓lI_443 F, ↓lI_444 F, ↓lI_445 F, ↓lI_446 F, ↓lI_447 F, ↓lI_448 F, ↓lI_449 F, ↓lI_450 F, ↓sI_436 F, ↓sI_437 F, ↓sI_438 F, ↓sI_439 F, ↓sI_440 F, ↓sI_441 F, ↓sI_443 F, ↓sI_444 F, ↓sI_445 F, ↓sI_446 F, ↓sI_447 F, ↓sI_448 F, ↓sI_449 F, ↓sI_450 F, il_0, il_1, il_3, il_11, il_16, il_25, il_117, il_1425])), fun _ _ => rfl, fun k => by rw [if_neg (by omega)]⟩
  | succ m ih =>
    intro V i i0 hi
    have lp : rX m_M_keep m_M_keep 117 [.ref 435, .int (iv b), .int (iv i)] [] (em V J z) = rX m_M_keep m_M_keep 117 [.ref 435, .int (iv b), .int (iv (i + 1))] [] (em (sv V 436 (b + 1 + 16 + i) (V 436 (1425 + i))) J z) := by
      (rw [q_M_keep_117]; simp (disch := first | decide | omega | (simp (disch := first | decide | omega) only [sv_s, sv_o, ur_s, ur_e, ur_o]; omega)) only [↓reduceIte, iv_add, iv_sub, iv_mul, iv_neg, iv_ltT, iv_ltF, iv_leT, iv_leF, iv_eqT, iv_eqF, iv_div, iv_mod, ↓bnI_s, ↓bnV_s, ↓bnJ_s, ↓bnR_s, rt_e, rt_0, rt_bz, sv_s, sv_o, ur_s, ur_e, ur_o, bz_T, bz_F, nat_eqF, Nat.reduceAdd, ↓gR_435_0 F, ↓lI_436 F, ↓lI_437 F, ↓lI_438 F, ↓lI_439 F, ↓lI_440 F, ↓lI_441 F, ↓lI_443 F, ↓lI_444 F, ↓lI_445 F, ↓lI_446 F, ↓lI_447 F, ↓lI_448 F, ↓lI_449 F, ↓lI_450 F, ↓sI_436 F, ↓sI_437 F, ↓sI_438 F, ↓sI_439 F, ↓sI_440 F, ↓sI_441 F, ↓sI_443 F, ↓sI_444 F, ↓sI_445 F, ↓sI_446 F, ↓sI_447 F, ↓sI_448 F, ↓sI_449 F, ↓sI_450 F, il_0, il_1, il_3, il_11, il_16, il_25, il_117, il_1425])
    obtain ⟨V', e1, e2, e3⟩ := ih (sv V 436 (b + 1 + 16 + i) (V 436 (1425 + i))) (i + 1) (by omega) (by omega)
    refine ⟨V', lp.trans e1, fun a h1 => by rw [e2 a h1]; simp (disch := first | decide | omega | (simp (disch := first | decide | omega) only [sv_s, sv_o, ur_s, ur_e, ur_o]; omega)) only [↓reduceIte, iv_add, iv_sub, iv_mul, iv_neg, iv_ltT, iv_ltF, iv_leT, iv_leF, iv_eqT, iv_eqF, iv_div, iv_mod, ↓bnI_s, ↓bnV_s, ↓bnJ_s, ↓bnR_s, rt_e, rt_0, rt_bz, sv_s, sv_o, ur_s, ur_e, ur_o, bz_T, bz_F, nat_eqF, Nat.reduceAdd], fun k => ?_⟩
    rw [e3 k]
    by_cases q : k = b + 1 + 16 + i
    · subst q
      rw [if_neg (by omega), if_pos (by omega), show b + 1 + 16 + i - b + 1408 = 1425 + i by omega]
      simp (disch := first | decide | omega | (simp (disch := first | decide | omega) only [sv_s, sv_o, ur_s, ur_e, ur_o]; omega)) only [↓reduceIte, iv_add, iv_sub, iv_mul, iv_neg, iv_ltT, iv_ltF, iv_leT, iv_leF, iv_eqT, iv_eqF, iv_div, iv_mod, ↓bnI_s, ↓bnV_s, ↓bnJ_s, ↓bnR_s, rt_e, rt_0, rt_bz, sv_s, sv_o, ur_s, ur_e, ur_o, bz_T, bz_F, nat_eqF, Nat.reduceAdd]
    · by_cases w : b + 17 + (i + 1) ≤ k ∧ k < b + 42
      · rw [if_pos w, if_pos (by omega)]; simp (disch := first | decide | omega | (simp (disch := first | decide | omega) only [sv_s, sv_o, ur_s, ur_e, ur_o]; omega)) only [↓reduceIte, iv_add, iv_sub, iv_mul, iv_neg, iv_ltT, iv_ltF, iv_leT, iv_leF, iv_eqT, iv_eqF, iv_div, iv_mod, ↓bnI_s, ↓bnV_s, ↓bnJ_s, ↓bnR_s, rt_e, rt_0, rt_bz, sv_s, sv_o, ur_s, ur_e, ur_o, bz_T, bz_F, nat_eqF, Nat.reduceAdd]
      · rw [if_neg w, if_neg (by omega)]; simp (disch := first | decide | omega | (simp (disch := first | decide | omega) only [sv_s, sv_o, ur_s, ur_e, ur_o]; omega)) only [↓reduceIte, iv_add, iv_sub, iv_mul, iv_neg, iv_ltT, iv_ltF, iv_leT, iv_leF, iv_eqT, iv_eqF, iv_div, iv_mod, ↓bnI_s, ↓bnV_s, ↓bnJ_s, ↓bnR_s, rt_e, rt_0, rt_bz, sv_s, sv_o, ur_s, ur_e, ur_o, bz_T, bz_F, nat_eqF, Nat.reduceAdd]
/-- the row with one step more, from a place with room -/
def Kp (A A' : Int → Int) (c : Int) : Prop := A' 3 = c + 1 ∧ ∀ k, k ≠ 3 → A' k = if 165 + 42 * c ≤ k ∧ k < 165 + 42 * c + 42 then (if k = 165 + 42 * c then A 0 else if k < 165 + 42 * c + 17 then A (k - (165 + 42 * c) + 6) else A (k - (165 + 42 * c) + 1408)) else A k
theorem y_kp56 (F : Fix z) (h : 0 ≤ V 436 3 ∧ V 436 3 < 30) : ∃ V', rX m_M_keep m_M_keep 56 [.ref 435, dd, dd] [] (em V J z) = some (.null, em V' J z) ∧ (∀ a, a ≠ 436 → V' a = V a) ∧ Kp (V 436) (V' 436) (V 436 3) := by
  have hb : ∃ b, b = 165 + 42 * V 436 3 := ⟨_, rfl⟩
  obtain ⟨b, hb⟩ := hb
  have st : rX m_M_keep m_M_keep 56 [.ref 435, dd, dd] [] (em V J z) = rX m_M_keep m_M_keep 84 [.ref 435, .int (iv b), .int (iv 0)] [] (em (sv V 436 b (V 436 0)) J z) := by
    (rw [q_M_keep_56]; simp (disch := first | decide | omega | (simp (disch := first | decide | omega) only [sv_s, sv_o, ur_s, ur_e, ur_o]; omega)) only [↓reduceIte, iv_add, iv_sub, iv_mul, iv_neg, iv_ltT, iv_ltF, iv_leT, iv_leF, iv_eqT, iv_eqF, iv_div, iv_mod, ↓bnI_s, ↓bnV_s, ↓bnJ_s, ↓bnR_s, rt_e, rt_0, rt_bz, sv_s, sv_o, ur_s, ur_e, ur_o, bz_T, bz_F, nat_eqF, Nat.reduceAdd, ↓gR_435_0 F, ↓lI_436 F, ↓lI_437 F, ↓lI_438 F, ↓lI_439 F, ↓lI_440 F, ↓lI_441 F, ↓lI_443 F, ↓lI_444 F, ↓lI_445 F, ↓lI_446 F, ↓lI_447 F, ↓lI_448 F, ↓lI_449 F, ↓lI_450 F, ↓sI_436 F, ↓sI_437 F, ↓sI_438 F, ↓sI_439 F, ↓sI_440 F, ↓sI_441 F, ↓sI_443 F, ↓sI_444 F, ↓sI_445 F, ↓sI_446 F, ↓sI_447 F, ↓sI_448 F, ↓sI_449 F, ↓sI_450 F, il_0, il_1, il_3, il_11, il_42, il_56, il_84, il_165, ← hb])
  obtain ⟨V1, a1, a2, a3⟩ := y_kp84 (J := J) F (b := b) (by omega) 16 (sv V 436 b (V 436 0)) 0 (by omega) (by omega)
  obtain ⟨V2, b1, b2, b3⟩ := y_kp117 (J := J) F (b := b) (by omega) 25 V1 0 (by omega) (by omega)
  have g3 : V2 436 3 = V 436 3 := by
    rw [b3, if_neg (by omega), a3, if_neg (by omega)]; simp (disch := first | decide | omega | (simp (disch := first | decide | omega) only [sv_s, sv_o, ur_s, ur_e, ur_o]; omega)) only [↓reduceIte, iv_add, iv_sub, iv_mul, iv_neg, iv_ltT, iv_ltF, iv_leT, iv_leF, iv_eqT, iv_eqF, iv_div, iv_mod, ↓bnI_s, ↓bnV_s, ↓bnJ_s, ↓bnR_s, rt_e, rt_0, rt_bz, sv_s, sv_o, ur_s, ur_e, ur_o, bz_T, bz_F, nat_eqF, Nat.reduceAdd]
  refine ⟨_, st.trans (a1.trans b1), fun a h => ?_, ?_, fun k k3 => ?_⟩
  · simp (disch := first | decide | omega | (simp (disch := first | decide | omega) only [sv_s, sv_o, ur_s, ur_e, ur_o]; omega)) only [↓reduceIte, iv_add, iv_sub, iv_mul, iv_neg, iv_ltT, iv_ltF, iv_leT, iv_leF, iv_eqT, iv_eqF, iv_div, iv_mod, ↓bnI_s, ↓bnV_s, ↓bnJ_s, ↓bnR_s, rt_e, rt_0, rt_bz, sv_s, sv_o, ur_s, ur_e, ur_o, bz_T, bz_F, nat_eqF, Nat.reduceAdd, b2 a h, a2 a h]
  · simp (disch := first | decide | omega | (simp (disch := first | decide | omega) only [sv_s, sv_o, ur_s, ur_e, ur_o]; omega)) only [↓reduceIte, iv_add, iv_sub, iv_mul, iv_neg, iv_ltT, iv_ltF, iv_leT, iv_leF, iv_eqT, iv_eqF, iv_div, iv_mod, ↓bnI_s, ↓bnV_s, ↓bnJ_s, ↓bnR_s, rt_e, rt_0, rt_bz, sv_s, sv_o, ur_s, ur_e, ur_o, bz_T, bz_F, nat_eqF, Nat.reduceAdd, g3]
  · rw [show sv V2 436 3 (V2 436 3 + 1) 436 k = V2 436 k by simp (disch := first | decide | omega | (simp (disch := first | decide | omega) only [sv_s, sv_o, ur_s, ur_e, ur_o]; omega)) only [↓reduceIte, iv_add, iv_sub, iv_mul, iv_neg, iv_ltT, iv_ltF, iv_leT, iv_leF, iv_eqT, iv_eqF, iv_div, iv_mod, ↓bnI_s, ↓bnV_s, ↓bnJ_s, ↓bnR_s, rt_e, rt_0, rt_bz, sv_s, sv_o, ur_s, ur_e, ur_o, bz_T, bz_F, nat_eqF, Nat.reduceAdd], b3, ← hb]
    by_cases q1 : b + 17 + 0 ≤ k ∧ k < b + 42
    · rw [if_pos q1, a3, if_neg (by omega), if_pos (by omega), if_neg (by omega), if_neg (by omega)]
      simp (disch := first | decide | omega | (simp (disch := first | decide | omega) only [sv_s, sv_o, ur_s, ur_e, ur_o]; omega)) only [↓reduceIte, iv_add, iv_sub, iv_mul, iv_neg, iv_ltT, iv_ltF, iv_leT, iv_leF, iv_eqT, iv_eqF, iv_div, iv_mod, ↓bnI_s, ↓bnV_s, ↓bnJ_s, ↓bnR_s, rt_e, rt_0, rt_bz, sv_s, sv_o, ur_s, ur_e, ur_o, bz_T, bz_F, nat_eqF, Nat.reduceAdd]
    · rw [if_neg q1, a3]
      by_cases q2 : b + 1 + 0 ≤ k ∧ k < b + 17
      · rw [if_pos q2, if_pos (by omega), if_neg (by omega), if_pos (by omega)]
        simp (disch := first | decide | omega | (simp (disch := first | decide | omega) only [sv_s, sv_o, ur_s, ur_e, ur_o]; omega)) only [↓reduceIte, iv_add, iv_sub, iv_mul, iv_neg, iv_ltT, iv_ltF, iv_leT, iv_leF, iv_eqT, iv_eqF, iv_div, iv_mod, ↓bnI_s, ↓bnV_s, ↓bnJ_s, ↓bnR_s, rt_e, rt_0, rt_bz, sv_s, sv_o, ur_s, ur_e, ur_o, bz_T, bz_F, nat_eqF, Nat.reduceAdd]
      · rw [if_neg q2]
        by_cases q3 : k = b
        · subst q3
          rw [if_pos (by omega), if_pos rfl]
          simp (disch := first | decide | omega | (simp (disch := first | decide | omega) only [sv_s, sv_o, ur_s, ur_e, ur_o]; omega)) only [↓reduceIte, iv_add, iv_sub, iv_mul, iv_neg, iv_ltT, iv_ltF, iv_leT, iv_leF, iv_eqT, iv_eqF, iv_div, iv_mod, ↓bnI_s, ↓bnV_s, ↓bnJ_s, ↓bnR_s, rt_e, rt_0, rt_bz, sv_s, sv_o, ur_s, ur_e, ur_o, bz_T, bz_F, nat_eqF, Nat.reduceAdd]
        · rw [if_neg (by omega)]
          simp (disch := first | decide | omega | (simp (disch := first | decide | omega) only [sv_s, sv_o, ur_s, ur_e, ur_o]; omega)) only [↓reduceIte, iv_add, iv_sub, iv_mul, iv_neg, iv_ltT, iv_ltF, iv_leT, iv_leF, iv_eqT, iv_eqF, iv_div, iv_mod, ↓bnI_s, ↓bnV_s, ↓bnJ_s, ↓bnR_s, rt_e, rt_0, rt_bz, sv_s, sv_o, ur_s, ur_e, ur_o, bz_T, bz_F, nat_eqF, Nat.reduceAdd]
/-- the row ahead of keeping: the eldest step has gone if there were thirty -/
def Sh (A B : Int → Int) : Prop := (A 3 < 30 ∧ B = A) ∨ (A 3 = 30 ∧ B 3 = 29 ∧ ∀ k, k ≠ 3 → B k = if 165 ≤ k ∧ k < 1383 then A (k + 42) else A k)
theorem y_keep (F : Fix z) (h : 0 ≤ V 436 3 ∧ V 436 3 ≤ 30) : ∃ B V', cA m_M_keep [.ref 435] (em V J z) = some (.null, em V' J z) ∧ (∀ a, a ≠ 436 → V' a = V a) ∧ Sh (V 436) B ∧ Kp B (V' 436) (B 3) := by
  by_cases q : V 436 3 = 30
  · obtain ⟨V1, a1, a2, a3⟩ := y_kp13 (J := J) F 1218 V 0 (by omega) (by omega)
    have g3 : V1 436 3 = 30 := by rw [a3, if_neg (by omega)]; exact q
    have lp : rX m_M_keep m_M_keep 13 [.ref 435, .int (iv 1218), dd] [] (em V1 J z) = rX m_M_keep m_M_keep 56 [.ref 435, dd, dd] [] (em (sv V1 436 3 29) J z) := by
      (rw [q_M_keep_13]; simp (disch := first | decide | omega | (simp (disch := first | decide | omega) only [sv_s, sv_o, ur_s, ur_e, ur_o]; omega)) only [↓reduceIte, iv_add, iv_sub, iv_mul, iv_neg, iv_ltT, iv_ltF, iv_leT, iv_leF, iv_eqT, iv_eqF, iv_div, iv_mod, ↓bnI_s, ↓bnV_s, ↓bnJ_s, ↓bnR_s, rt_e, rt_0, rt_bz, sv_s, sv_o, ur_s, ur_e, ur_o, bz_T, bz_F, nat_eqF, Nat.reduceAdd, ↓gR_435_0 F, ↓lI_436 F, ↓lI_437 F, ↓lI_438 F, ↓lI_439 F, ↓lI_440 F, ↓lI_441 F, ↓lI_443 F, ↓lI_444 F, ↓lI_445 F, ↓lI_446 F, ↓lI_447 F, ↓lI_448 F, ↓lI_449 F, ↓lI_450 F, ↓sI_436 F, ↓sI_437 F, ↓sI_438 F, ↓sI_439 F, ↓sI_440 F, ↓sI_441 F, ↓sI_443 F, ↓sI_444 F, ↓sI_445 F, ↓sI_446 F, ↓sI_447 F, ↓sI_448 F, ↓sI_449 F, ↓sI_450 F, il_0, il_1, il_3, il_11, il_13, il_56, il_165, il_207, il_1218, g3])
      rfl
    obtain ⟨V2, b1, b2, b3⟩ := y_kp56 (V := sv V1 436 3 29) (J := J) F (by simp (disch := first | decide | omega | (simp (disch := first | decide | omega) only [sv_s, sv_o, ur_s, ur_e, ur_o]; omega)) only [↓reduceIte, iv_add, iv_sub, iv_mul, iv_neg, iv_ltT, iv_ltF, iv_leT, iv_leF, iv_eqT, iv_eqF, iv_div, iv_mod, ↓bnI_s, ↓bnV_s, ↓bnJ_s, ↓bnR_s, rt_e, rt_0, rt_bz, sv_s, sv_o, ur_s, ur_e, ur_o, bz_T, bz_F, nat_eqF, Nat.reduceAdd]; omega)
    refine ⟨sv V1 436 3 29 436, V2, ?_, fun a h => ?_, Or.inr ⟨q, by simp (disch := first | decide | omega | (simp (disch := first | decide | omega) only [sv_s, sv_o, ur_s, ur_e, ur_o]; omega)) only [↓reduceIte, iv_add, iv_sub, iv_mul, iv_neg, iv_ltT, iv_ltF, iv_leT, iv_leF, iv_eqT, iv_eqF, iv_div, iv_mod, ↓bnI_s, ↓bnV_s, ↓bnJ_s, ↓bnR_s, rt_e, rt_0, rt_bz, sv_s, sv_o, ur_s, ur_e, ur_o, bz_T, bz_F, nat_eqF, Nat.reduceAdd], fun k k3 => ?_⟩, b3⟩
    · rw [← b1, ← lp, ← a1]
      simp (disch := first | decide | omega | (simp (disch := first | decide | omega) only [sv_s, sv_o, ur_s, ur_e, ur_o]; omega)) only [↓reduceIte, iv_add, iv_sub, iv_mul, iv_neg, iv_ltT, iv_ltF, iv_leT, iv_leF, iv_eqT, iv_eqF, iv_div, iv_mod, ↓bnI_s, ↓bnV_s, ↓bnJ_s, ↓bnR_s, rt_e, rt_0, rt_bz, sv_s, sv_o, ur_s, ur_e, ur_o, bz_T, bz_F, nat_eqF, Nat.reduceAdd, ↓q_M_keep, ↓gR_435_0 F, ↓lI_436 F, ↓lI_437 F, ↓lI_438 F, ↓lI_439 F, ↓lI_440 F, ↓lI_441 F, ↓lI_443 F, ↓lI_444 F, ↓lI_445 F, ↓lI_446 F, ↓lI_447 F, ↓lI_448 F, ↓lI_449 F, ↓lI_450 F, ↓gd_435 F, il_0, il_1, il_3, il_11, il_13, il_27, il_30, il_56, q]
    · rw [b2 a h]; simp (disch := first | decide | omega | (simp (disch := first | decide | omega) only [sv_s, sv_o, ur_s, ur_e, ur_o]; omega)) only [↓reduceIte, iv_add, iv_sub, iv_mul, iv_neg, iv_ltT, iv_ltF, iv_leT, iv_leF, iv_eqT, iv_eqF, iv_div, iv_mod, ↓bnI_s, ↓bnV_s, ↓bnJ_s, ↓bnR_s, rt_e, rt_0, rt_bz, sv_s, sv_o, ur_s, ur_e, ur_o, bz_T, bz_F, nat_eqF, Nat.reduceAdd, a2 a h]
    · rw [show sv V1 436 3 29 436 k = V1 436 k by simp (disch := first | decide | omega | (simp (disch := first | decide | omega) only [sv_s, sv_o, ur_s, ur_e, ur_o]; omega)) only [↓reduceIte, iv_add, iv_sub, iv_mul, iv_neg, iv_ltT, iv_ltF, iv_leT, iv_leF, iv_eqT, iv_eqF, iv_div, iv_mod, ↓bnI_s, ↓bnV_s, ↓bnJ_s, ↓bnR_s, rt_e, rt_0, rt_bz, sv_s, sv_o, ur_s, ur_e, ur_o, bz_T, bz_F, nat_eqF, Nat.reduceAdd], a3, show (165 : Int) + 0 = 165 from rfl]
  · obtain ⟨V2, b1, b2, b3⟩ := y_kp56 (V := V) (J := J) F (by omega)
    refine ⟨V 436, V2, ?_, b2, Or.inl ⟨by omega, rfl⟩, b3⟩
    rw [← b1]
    simp (disch := first | decide | omega | (simp (disch := first | decide | omega) only [sv_s, sv_o, ur_s, ur_e, ur_o]; omega)) only [↓reduceIte, iv_add, iv_sub, iv_mul, iv_neg, iv_ltT, iv_ltF, iv_leT, iv_leF, iv_eqT, iv_eqF, iv_div, iv_mod, ↓bnI_s, ↓bnV_s, ↓bnJ_s, ↓bnR_s, rt_e, rt_0, rt_bz, sv_s, sv_o, ur_s, ur_e, ur_o, bz_T, bz_F, nat_eqF, Nat.reduceAdd, ↓q_M_keep, ↓gR_435_0 F, ↓lI_436 F, ↓lI_437 F, ↓lI_438 F, ↓lI_439 F, ↓lI_440 F, ↓lI_441 F, ↓lI_443 F, ↓lI_444 F, ↓lI_445 F, ↓lI_446 F, ↓lI_447 F, ↓lI_448 F, ↓lI_449 F, ↓lI_450 F, ↓gd_435 F, il_0, il_1, il_3, il_11, il_13, il_27, il_30, il_56]
end
