/-! a step taken back -/
def un2 (A : Int → Int) (c : Int) : Int → Int := fun k => if 7 ≤ k ∧ k < 23 then ur A 3 c (165 + 42 * c + 1 + (k - 7)) else ur A 3 c k
def un3 (A : Int → Int) (c : Int) : Int → Int := fun k => if 11 + A (165 + 42 * c) ≤ k ∧ k < 11 + A 0 then un2 A c (k + 18) else if 17 + A (165 + 42 * c) ≤ k ∧ k < 17 + A 0 then k - 17 else un2 A c k
def undoA (A : Int → Int) (c : Int) : Int → Int := fun k => if 1425 ≤ k ∧ k < 1450 then un3 A c (165 + 42 * c + 17 + (k - 1425)) else un3 A c k
section
variable {V J : Vm} {z : Zz} {A : Int → Int} {c : Int}
theorem un2_o (hc : 0 ≤ c ∧ c < 30) {k : Int} (hk : ¬ (7 ≤ k ∧ k < 23)) : un2 A c k = ur A 3 c k := by unfold un2; rw [if_neg hk]
theorem un2_i (hc : 0 ≤ c ∧ c < 30) {k : Int} (hk : 7 ≤ k ∧ k < 23) : un2 A c k = snp A c k := by
  unfold un2 snp; rw [if_pos hk, if_neg (by omega), if_pos (by omega), ur_o (by omega)]
theorem un3_o (hn : 0 ≤ A (165 + 42 * c) ∧ A 0 ≤ 6) {k : Int} (hk : ¬ (11 ≤ k ∧ k < 23)) : un3 A c k = un2 A c k := by
  unfold un3; rw [if_neg (by omega), if_neg (by omega)]
theorem undoA_o (hc : 0 ≤ c ∧ c < 30) (hn : 0 ≤ A (165 + 42 * c) ∧ A 0 ≤ 6) {k : Int} (k3 : k ≠ 3) (hk : k < 7 ∨ (23 ≤ k ∧ k < 1425)) : undoA A c k = A k := by
  unfold undoA; rw [if_neg (by omega), un3_o hn (by omega), un2_o hc (by omega), ur_o k3]
theorem undoA_3 (hc : 0 ≤ c ∧ c < 30) (hn : 0 ≤ A (165 + 42 * c) ∧ A 0 ≤ 6) : undoA A c 3 = c := by
  unfold undoA; rw [if_neg (by omega), un3_o hn (by omega), un2_o hc (by omega), ur_s]
theorem undoA_l (hc : 0 ≤ c ∧ c < 30) (hn : 0 ≤ A (165 + 42 * c) ∧ A 0 ≤ 6) {k : Int} (hk : 7 ≤ k ∧ k < 11) : undoA A c k = snp A c k := by
  unfold undoA; rw [if_neg (by omega), un3_o hn (by omega), un2_i hc (by omega)]
theorem undoA_k (hc : 0 ≤ c ∧ c < 30) (hn : 0 ≤ A (165 + 42 * c) ∧ A 0 ≤ 6) {k : Int} (hk : 0 ≤ k ∧ k < A (165 + 42 * c)) (h6 : A (165 + 42 * c) ≤ 6) : undoA A c (11 + k) = snp A c (11 + k) ∧ undoA A c (17 + k) = snp A c (17 + k) := by
  unfold undoA un3
  rw [if_neg (by omega), if_neg (by omega), if_neg (by omega), if_neg (by omega), if_neg (by omega), if_neg (by omega), un2_i hc (by omega), un2_i hc (by omega)]
  exact ⟨rfl, rfl⟩
theorem undoA_n (hc : 0 ≤ c ∧ c < 30) (hn : 0 ≤ A (165 + 42 * c) ∧ A 0 ≤ 6) {k : Int} (hk : A (165 + 42 * c) ≤ k ∧ k < A 0) : undoA A c (11 + k) = A (29 + k) ∧ undoA A c (17 + k) = k := by
  unfold undoA un3
  rw [if_neg (by omega), if_pos (by omega), if_neg (by omega), if_neg (by omega), if_pos (by omega), un2_o hc (by omega), ur_o (by omega), show 11 + k + 18 = 29 + k by omega, show 17 + k - 17 = k by omega]
  exact ⟨rfl, rfl⟩
theorem undoA_b (hc : 0 ≤ c ∧ c < 30) (hn : 0 ≤ A (165 + 42 * c) ∧ A 0 ≤ 6) {k : Int} (hk : 1425 ≤ k ∧ k < 1450) : undoA A c k = snp A c k := by
  unfold undoA snp
  rw [if_pos hk, un3_o hn (by omega), un2_o hc (by omega), ur_o (by omega), if_neg (by omega), if_neg (by omega)]
theorem y_un37 (F : Fix z) {b : Int} (hb : 165 ≤ b ∧ b ≤ 1383) : ∀ (m : Nat) (V : Vm) (i : Int), 0 ≤ i → i + m = 16 → ∃ V', rX m_M_undo m_M_undo 37 [.ref 435, .int (iv b), .int (iv i)] [] (em V J z) = rX m_M_undo m_M_undo 75 [.ref 435, .int (iv b), .int (iv (V' 436 b))] [] (em V' J z) ∧ (∀ a, a ≠ 436 → V' a = V a) ∧ ∀ k, V' 436 k = if 7 + i ≤ k ∧ k < 23 then V 436 (b + 1 + (k - 7)) else V 436 k := by
  intro m
  induction m with
  | zero =>
    intro V i i0 hi
    have hi : i = 16 := by omega
    subst hi
    exact ⟨V, (by (rw [q_M_undo_37]; simp (disch := first | decide | omega | (simp (disch := first | decide | omega) only [sv_s, sv_o, ur_s, ur_e, ur_o]; omega)) only [↓reduceIte, iv_add, iv_sub, iv_mul, iv_neg, iv_ltT, iv_ltF, iv_leT, iv_leF, iv_eqT, iv_eqF, iv_div, iv_mod, ↓bnI_s, ↓bnV_s, ↓bnJ_s, ↓bnR_s, rt_e, rt_0, rt_bz, sv_s, sv_o, ur_s, ur_e, ur_o, bz_T, bz_F, nat_eqF, Nat.reduceAdd, ↓gR_435_0 F, ↓lI_436 F, ↓lI_437 F, ↓lI_438 F, ↓lI_439 F, ↓lI_440 F, ↓lI_441 F, ↓lI_443 F, ↓lI_444 F, ↓lI_445 F, ↓lI_446 F, ↓lI_447 F, ↓lI_448 F, ↓lI_449 F, ↓lI_450 F, ↓sI_436 F, ↓sI_437 F, ↓sI_438 F, ↓sI_439 F, ↓sI_440 F, ↓sI_441 F, ↓sI_443 F, ↓sI_444 F, ↓sI_445 F, ↓sI_446 F, ↓sI_447 F, ↓sI_448 F, ↓sI_449 F, ↓sI_450 F, il_0, il_1, il_7, il_11, il_16, il_37, il_75])), fun _ _ => rfl, fun k => by rw [if_neg (by omega)]⟩
  | succ m ih =>
    intro V i i0 hi
    have lp : rX m_M_undo m_M_undo 37 [.ref 435, .int (iv b), .int (iv i)] [] (em V J z) = rX m_M_undo m_M_undo 37 [.ref 435, .int (iv b), .int (iv (i + 1))] [] (em (sv V 436 (7 + i) (V 436 (b + 1 + i))) J z) := by
      (rw [q_M_undo_37]; simp (disch := first | decide | omega | (simp (disch := first | decide | omega) only [sv_s, sv_o, ur_s, ur_e, ur_o]; omega)) only [↓reduceIte, iv_add, iv_sub, iv_mul, iv_neg, iv_ltT, iv_ltF, iv_leT, iv_leF, iv_eqT, iv_eqF, iv_div, iv_mod, ↓bnI_s, ↓bnV_s, ↓bnJ_s, ↓bnR_s, rt_e, rt_0, rt_bz, sv_s, sv_o, ur_s, ur_e, ur_o, bz_T, bz_F, nat_eqF, Nat.reduceAdd, ↓gR_435_0 F, ↓lI_436 F, ↓lI_437 F, ↓lI_438 F, ↓lI_439 F, ↓lI_440 F, ↓lI_441 F, ↓lI_443 F, ↓lI_444 F, ↓lI_445 F, ↓lI_446 F, ↓lI_447 F, ↓lI_448 F, ↓lI_449 F, ↓lI_450 F, ↓sI_436 F, ↓sI_437 F, ↓sI_438 F, ↓sI_439 F, ↓sI_440 F, ↓sI_441 F, ↓sI_443 F, ↓sI_444 F, ↓sI_445 F, ↓sI_446 F, ↓sI_447 F, ↓sI_448 F, ↓sI_449 F, ↓sI_450 F, il_0, il_1, il_7, il_11, il_16, il_37, il_75])
    obtain ⟨V', e1, e2, e3⟩ := ih (sv V 436 (7 + i) (V 436 (b + 1 + i))) (i + 1) (by omega) (by omega)
    refine ⟨V', lp.trans e1, fun a h1 => by rw [e2 a h1]; simp (disch := first | decide | omega | (simp (disch := first | decide | omega) only [sv_s, sv_o, ur_s, ur_e, ur_o]; omega)) only [↓reduceIte, iv_add, iv_sub, iv_mul, iv_neg, iv_ltT, iv_ltF, iv_leT, iv_leF, iv_eqT, iv_eqF, iv_div, iv_mod, ↓bnI_s, ↓bnV_s, ↓bnJ_s, ↓bnR_s, rt_e, rt_0, rt_bz, sv_s, sv_o, ur_s, ur_e, ur_o, bz_T, bz_F, nat_eqF, Nat.reduceAdd], fun k => ?_⟩
    rw [e3 k]
    by_cases q : k = 7 + i
    · subst q
      rw [if_neg (by omega), if_pos (by omega), show b + 1 + (7 + i - 7) = b + 1 + i by omega]
      simp (disch := first | decide | omega | (simp (disch := first | decide | omega) only [sv_s, sv_o, ur_s, ur_e, ur_o]; omega)) only [↓reduceIte, iv_add, iv_sub, iv_mul, iv_neg, iv_ltT, iv_ltF, iv_leT, iv_leF, iv_eqT, iv_eqF, iv_div, iv_mod, ↓bnI_s, ↓bnV_s, ↓bnJ_s, ↓bnR_s, rt_e, rt_0, rt_bz, sv_s, sv_o, ur_s, ur_e, ur_o, bz_T, bz_F, nat_eqF, Nat.reduceAdd]
    · by_cases w : 7 + (i + 1) ≤ k ∧ k < 23
      · rw [if_pos w, if_pos (by omega)]; simp (disch := first | decide | omega | (simp (disch := first | decide | omega) only [sv_s, sv_o, ur_s, ur_e, ur_o]; omega)) only [↓reduceIte, iv_add, iv_sub, iv_mul, iv_neg, iv_ltT, iv_ltF, iv_leT, iv_leF, iv_eqT, iv_eqF, iv_div, iv_mod, ↓bnI_s, ↓bnV_s, ↓bnJ_s, ↓bnR_s, rt_e, rt_0, rt_bz, sv_s, sv_o, ur_s, ur_e, ur_o, bz_T, bz_F, nat_eqF, Nat.reduceAdd]
      · rw [if_neg w, if_neg (by omega)]; simp (disch := first | decide | omega | (simp (disch := first | decide | omega) only [sv_s, sv_o, ur_s, ur_e, ur_o]; omega)) only [↓reduceIte, iv_add, iv_sub, iv_mul, iv_neg, iv_ltT, iv_ltF, iv_leT, iv_leF, iv_eqT, iv_eqF, iv_div, iv_mod, ↓bnI_s, ↓bnV_s, ↓bnJ_s, ↓bnR_s, rt_e, rt_0, rt_bz, sv_s, sv_o, ur_s, ur_e, ur_o, bz_T, bz_F, nat_eqF, Nat.reduceAdd]
theorem y_un75 (F : Fix z) {b n : Int} (hn : 0 ≤ n ∧ n ≤ 6) : ∀ (m : Nat) (V : Vm) (i : Int), 0 ≤ i → i + m = n → V 436 0 = n → ∃ V', rX m_M_undo m_M_undo 75 [.ref 435, .int (iv b), .int (iv i)] [] (em V J z) = rX m_M_undo m_M_undo 98 [.ref 435, .int (iv b), .int (iv 0)] [] (em V' J z) ∧ (∀ a, a ≠ 436 → V' a = V a) ∧ ∀ k, V' 436 k = if 11 + i ≤ k ∧ k < 11 + n then V 436 (k + 18) else if 17 + i ≤ k ∧ k < 17 + n then k - 17 else V 436 k := by
  intro m
  induction m with
  | zero =>
    intro V i i0 hi h0
    have hi : i = n := by omega
    subst hi
    exact ⟨V, (by (rw [q_M_undo_75]; simp (disch := first | decide | omega | (simp (disch := first | decide | omega) only [sv_s, sv_o, ur_s, ur_e, ur_o]; omega)) only [↓reduceIte, iv_add, iv_sub, iv_mul, iv_neg, iv_ltT, iv_ltF, iv_leT, iv_leF, iv_eqT, iv_eqF, iv_div, iv_mod, ↓bnI_s, ↓bnV_s, ↓bnJ_s, ↓bnR_s, rt_e, rt_0, rt_bz, sv_s, sv_o, ur_s, ur_e, ur_o, bz_T, bz_F, nat_eqF, Nat.reduceAdd, ↓gR_435_0 F, ↓lI_436 F, ↓lI_437 F, ↓lI_438 F, ↓lI_439 F, ↓lI_440 F, ↓lI_441 F, ↓lI_443 F, ↓lI_444 F, ↓lI_445 F, ↓lI_446 F, ↓lI_447 F, ↓lI_448 F, ↓lI_449 F, ↓lI_450 F, il_0, il_1, il_11, il_75, il_98, h0])), fun _ _ => rfl, fun k => by rw [if_neg (by omega), if_neg (by omega)]⟩
  | succ m ih =>
    intro V i i0 hi h0
    have lp : rX m_M_undo m_M_undo 75 [.ref 435, .int (iv b), .int (iv i)] [] (em V J z) = rX m_M_undo m_M_undo 75 [.ref 435, .int (iv b), .int (iv (i + 1))] [] (em (sv (sv V 436 (11 + i) (V 436 (29 + i))) 436 (17 + i) i) J z) := by
      (rw [q_M_undo_75]; simp (disch := first | decide | omega | (simp (disch := first | decide | omega) only [sv_s, sv_o, ur_s, ur_e, ur_o]; omega)) only [↓reduceIte, iv_add, iv_sub, iv_mul, iv_neg, iv_ltT, iv_ltF, iv_leT, iv_leF, iv_eqT, iv_eqF, iv_div, iv_mod, ↓bnI_s, ↓bnV_s, ↓bnJ_s, ↓bnR_s, rt_e, rt_0, rt_bz, sv_s, sv_o, ur_s, ur_e, ur_o, bz_T, bz_F, nat_eqF, Nat.reduceAdd, ↓gR_435_0 F, ↓lI_436 F, ↓lI_437 F, ↓lI_438 F, ↓lI_439 F, ↓lI_440 F, ↓lI_441 F, ↓lI_443 F, ↓lI_444 F, ↓lI_445 F, ↓lI_446 F, ↓lI_447 F, ↓lI_448 F, ↓lI_449 F, ↓lI_450 F, il_0, il_1, il_11, il_75, il_98, h0, y_begin F])
    obtain ⟨V', e1, e2, e3⟩ := ih (sv (sv V 436 (11 + i) (V 436 (29 + i))) 436 (17 + i) i) (i + 1) (by omega) (by omega) (by simp (disch := first | decide | omega | (simp (disch := first | decide | omega) only [sv_s, sv_o, ur_s, ur_e, ur_o]; omega)) only [↓reduceIte, iv_add, iv_sub, iv_mul, iv_neg, iv_ltT, iv_ltF, iv_leT, iv_leF, iv_eqT, iv_eqF, iv_div, iv_mod, ↓bnI_s, ↓bnV_s, ↓bnJ_s, ↓bnR_s, rt_e, rt_0, rt_bz, sv_s, sv_o, ur_s, ur_e, ur_o, bz_T, bz_F, nat_eqF, Nat.reduceAdd, h0])
    refine ⟨V', lp.trans e1, fun a h1 => by rw [e2 a h1]; simp (disch := first | decide | omega | (simp (disch := first | decide | omega) only [sv_s, sv_o, ur_s, ur_e, ur_o]; omega)) only [↓reduceIte, iv_add, iv_sub, iv_mul, iv_neg, iv_ltT, iv_ltF, iv_leT, iv_leF, iv_eqT, iv_eqF, iv_div, iv_mod, ↓bnI_s, ↓bnV_s, ↓bnJ_s, ↓bnR_s, rt_e, rt_0, rt_bz, sv_s, sv_o, ur_s, ur_e, ur_o, bz_T, bz_F, nat_eqF, Nat.reduceAdd], fun k => ?_⟩
    rw [e3 k]
    by_cases q : k = 11 + i
    · subst q
      rw [if_neg (by omega), if_neg (by omega), if_pos (by omega), show 11 + i + 18 = 29 + i by omega]
      simp (disch := first | decide | omega | (simp (disch := first | decide | omega) only [sv_s, sv_o, ur_s, ur_e, ur_o]; omega)) only [↓reduceIte, iv_add, iv_sub, iv_mul, iv_neg, iv_ltT, iv_ltF, iv_leT, iv_leF, iv_eqT, iv_eqF, iv_div, iv_mod, ↓bnI_s, ↓bnV_s, ↓bnJ_s, ↓bnR_s, rt_e, rt_0, rt_bz, sv_s, sv_o, ur_s, ur_e, ur_o, bz_T, bz_F, nat_eqF, Nat.reduceAdd]
    · by_cases q2 : k = 17 + i
      · subst q2
        rw [if_neg (by omega), if_neg (by omega), if_neg (by omega), if_pos (by omega), show 17 + i - 17 = i by omega]
        simp (disch := first | decide | omega | (simp (disch := first | decide | omega) only [sv_s, sv_o, ur_s, ur_e, ur_o]; omega)) only [↓reduceIte, iv_add, iv_sub, iv_mul, iv_neg, iv_ltT, iv_ltF, iv_leT, iv_leF, iv_eqT, iv_eqF, iv_div, iv_mod, ↓bnI_s, ↓bnV_s, ↓bnJ_s, ↓bnR_s, rt_e, rt_0, rt_bz, sv_s, sv_o, ur_s, ur_e, ur_o, bz_T, bz_F, nat_eqF, Nat.reduceAdd]
      · by_cases w : 11 + (i + 1) ≤ k ∧ k < 11 + n
        · rw [if_pos w, if_pos (by omega)]; simp (disch := first | decide | omega | (simp (disch := first | decide | omega) only [sv_s, sv_o, ur_s, ur_e, ur_o]; omega)) only [↓reduceIte, iv_add, iv_sub, iv_mul, iv_neg, iv_ltT, iv_ltF, iv_leT, iv_leF, iv_eqT, iv_eqF, iv_div, iv_mod, ↓bnI_s, ↓bnV_s, ↓bnJ_s, ↓bnR_s, rt_e, rt_0, rt_bz, sv_s, sv_o, ur_s, ur_e, ur_o, bz_T, bz_F, nat_eqF, Nat.reduceAdd]
        · rw [if_neg w, if_neg (by omega : ¬ (11 + i ≤ k ∧ k < 11 + n))]
          by_cases w2 : 17 + (i + 1) ≤ k ∧ k < 17 + n
          · rw [if_pos w2, if_pos (by omega)]
          · rw [if_neg w2, if_neg (by omega)]; simp (disch := first | decide | omega | (simp (disch := first | decide | omega) only [sv_s, sv_o, ur_s, ur_e, ur_o]; omega)) only [↓reduceIte, iv_add, iv_sub, iv_mul, iv_neg, iv_ltT, iv_ltF, iv_leT, iv_leF, iv_eqT, iv_eqF, iv_div, iv_mod, ↓bnI_s, ↓bnV_s, ↓bnJ_s, ↓bnR_s, rt_e, rt_0, rt_bz, sv_s, sv_o, ur_s, ur_e, ur_o, bz_T, bz_F, nat_eqF, Nat.reduceAdd]
theorem y_un98 (F : Fix z) {b : Int} (hb : 165 ≤ b ∧ b ≤ 1383) : ∀ (m : Nat) (V : Vm) (i : Int), 0 ≤ i → i + m = 25 → ∃ V', rX m_M_undo m_M_undo 98 [.ref 435, .int (iv b), .int (iv i)] [] (em V J z) = some (.int (iv (V' 436 3)), em V' J z) ∧ (∀ a, a ≠ 436 → V' a = V a) ∧ ∀ k, V' 436 k = if 1425 + i ≤ k ∧ k < 1450 then V 436 (b + 17 + (k - 1425)) else V 436 k := by
  intro m
  induction m with
  | zero =>
    intro V i i0 hi
    have hi : i = 25 := by omega
    subst hi
    exact ⟨V, (by (rw [q_M_undo_98]; simp (disch := first | decide | omega | (simp (disch := first | decide | omega) only [sv_s, sv_o, ur_s, ur_e, ur_o]; omega)) only [↓reduceIte, iv_add, iv_sub, iv_mul, iv_neg, iv_ltT, iv_ltF, iv_leT, iv_leF, iv_eqT, iv_eqF, iv_div, iv_mod, ↓bnI_s, ↓bnV_s, ↓bnJ_s, ↓bnR_s, rt_e, rt_0, rt_bz, sv_s, sv_o, ur_s, ur_e, ur_o, bz_T, bz_F, nat_eqF, Nat.reduceAdd, ↓gR_435_0 F, ↓lI_436 F, ↓lI_437 F, ↓lI_438 F, ↓lI_439 F, ↓lI_440 F, ↓lI_441 F, ↓lI_443 F, ↓lI_444 F, ↓lI_445 F, ↓lI_446 F, ↓lI_447 F, ↓lI_448 F, ↓lI_449 F, ↓lI_450 F, ↓sI_436 F, ↓sI_437 F, ↓sI_438 F, ↓sI_439 F, ↓sI_440 F, ↓sI_441 F, ↓sI_443 F, ↓sI_444 F, ↓sI_445 F, ↓sI_446 F, ↓sI_447 F, ↓sI_448 F, ↓sI_449 F, ↓sI_450 F, il_0, il_1, il_3, il_11, il_16, il_25, il_98, il_1425])), fun _ _ => rfl, fun k => by rw [if_neg (by omega)]⟩
  | succ m ih =>
    intro V i i0 hi
    have lp : rX m_M_undo m_M_undo 98 [.ref 435, .int (iv b), .int (iv i)] [] (em V J z) = rX m_M_undo m_M_undo 98 [.ref 435, .int (iv b), .int (iv (i + 1))] [] (em (sv V 436 (1425 + i) (V 436 (b + 1 + 16 + i))) J z) := by
      (rw [q_M_undo_98]; simp (disch := first | decide | omega | (simp (disch := first | decide | omega) only [sv_s, sv_o, ur_s, ur_e, ur_o]; omega)) only [↓reduceIte, iv_add, iv_sub, iv_mul, iv_neg, iv_ltT, iv_ltF, iv_leT, iv_leF, iv_eqT, iv_eqF, iv_div, iv_mod, ↓bnI_s, ↓bnV_s, ↓bnJ_s, ↓bnR_s, rt_e, rt_0, rt_bz, sv_s, sv_o, ur_s, ur_e, ur_o, bz_T, bz_F, nat_eqF, Nat.reduceAdd, ↓gR_435_0 F, ↓lI_436 F, ↓lI_437 F, ↓lI_438 F, ↓lI_439 F, ↓lI_440 F, ↓lI_441 F, ↓lI_443 F, ↓lI_444 F, ↓lI_445 F, ↓lI_446 F, ↓lI_447 F, ↓lI_448 F, ↓lI_449 F, ↓lI_450 F, ↓sI_436 F, ↓sI_437 F, ↓sI_438 F, ↓sI_439 F, ↓sI_440 F, ↓sI_441 F, ↓sI_443 F, ↓sI_444 F, ↓sI_445 F, ↓sI_446 F, ↓sI_447 F, ↓sI_448 F, ↓sI_449 F, ↓sI_450 F, il_0, il_1, il_3, il_11, il_16, il_25, il_98, il_1425])
    obtain ⟨V', e1, e2, e3⟩ := ih (sv V 436 (1425 + i) (V 436 (b + 1 + 16 + i))) (i + 1) (by omega) (by omega)
    refine ⟨V', lp.trans e1, fun a h1 => by rw [e2 a h1]; simp (disch := first | decide | omega | (simp (disch := first | decide | omega) only [sv_s, sv_o, ur_s, ur_e, ur_o]; omega)) only [↓reduceIte, iv_add, iv_sub, iv_mul, iv_neg, iv_ltT, iv_ltF, iv_leT, iv_leF, iv_eqT, iv_eqF, iv_div, iv_mod, ↓bnI_s, ↓bnV_s, ↓bnJ_s, ↓bnR_s, rt_e, rt_0, rt_bz, sv_s, sv_o, ur_s, ur_e, ur_o, bz_T, bz_F, nat_eqF, Nat.reduceAdd], fun k => ?_⟩
    rw [e3 k]
    by_cases q : k = 1425 + i
    · subst q
      rw [if_neg (by omega), if_pos (by omega), show b + 17 + (1425 + i - 1425) = b + 1 + 16 + i by omega]
      simp (disch := first | decide | omega | (simp (disch := first | decide | omega) only [sv_s, sv_o, ur_s, ur_e, ur_o]; omega)) only [↓reduceIte, iv_add, iv_sub, iv_mul, iv_neg, iv_ltT, iv_ltF, iv_leT, iv_leF, iv_eqT, iv_eqF, iv_div, iv_mod, ↓bnI_s, ↓bnV_s, ↓bnJ_s, ↓bnR_s, rt_e, rt_0, rt_bz, sv_s, sv_o, ur_s, ur_e, ur_o, bz_T, bz_F, nat_eqF, Nat.reduceAdd]
    · by_cases w : 1425 + (i + 1) ≤ k ∧ k < 1450
      · rw [if_pos w, if_pos (by omega)]; simp (disch := first | decide | omega | (simp (disch := first | decide | omega) only [sv_s, sv_o, ur_s, ur_e, ur_o]; omega)) only [↓reduceIte, iv_add, iv_sub, iv_mul, iv_neg, iv_ltT, iv_ltF, iv_leT, iv_leF, iv_eqT, iv_eqF, iv_div, iv_mod, ↓bnI_s, ↓bnV_s, ↓bnJ_s, ↓bnR_s, rt_e, rt_0, rt_bz, sv_s, sv_o, ur_s, ur_e, ur_o, bz_T, bz_F, nat_eqF, Nat.reduceAdd]
      · rw [if_neg w, if_neg (by omega)]; simp (disch := first | decide | omega | (simp (disch := first | decide | omega) only [sv_s, sv_o, ur_s, ur_e, ur_o]; omega)) only [↓reduceIte, iv_add, iv_sub, iv_mul, iv_neg, iv_ltT, iv_ltF, iv_leT, iv_leF, iv_eqT, iv_eqF, iv_div, iv_mod, ↓bnI_s, ↓bnV_s, ↓bnJ_s, ↓bnR_s, rt_e, rt_0, rt_bz, sv_s, sv_o, ur_s, ur_e, ur_o, bz_T, bz_F, nat_eqF, Nat.reduceAdd]
theorem y_M_undo (F : Fix z) {c : Int} (hc : 0 ≤ c ∧ c < 30) (h3 : V 436 3 = c + 1) (hn : 0 ≤ V 436 (165 + 42 * c) ∧ V 436 (165 + 42 * c) ≤ V 436 0 ∧ V 436 0 ≤ 6) : ∃ V', cA m_M_undo [.ref 435] (em V J z) = some (.int (iv c), em V' J z) ∧ (∀ a, a ≠ 436 → V' a = V a) ∧ V' 436 = undoA (V 436) c := by
  obtain ⟨b, hb⟩ : ∃ b, b = 165 + 42 * c := ⟨_, rfl⟩
  obtain ⟨V1, a1, a2, a3⟩ := y_un37 (J := J) F (b := b) (by omega) 16 (sv V 436 3 c) 0 (by omega) (by omega)
  have v1 : ∀ k, V1 436 k = un2 (V 436) c k := fun k => by
    rw [a3 k, sv_s]
    unfold un2
    rw [hb, show (7 : Int) + 0 = 7 from rfl]
  have v1b : V1 436 b = V 436 b := by rw [v1, un2_o hc (by omega), ur_o (by omega)]
  have v10 : V1 436 0 = V 436 0 := by rw [v1, un2_o hc (by omega), ur_o (by omega)]
  rw [v1b] at a1
  rw [← hb] at hn
  obtain ⟨V2, b1, b2, b3⟩ := y_un75 (J := J) F (b := b) (n := V 436 0) (by omega) (V 436 0 - V 436 b).toNat V1 (V 436 b) (by omega) (by omega) v10
  have v2 : ∀ k, V2 436 k = un3 (V 436) c k := fun k => by
    rw [b3 k, v1, v1]
    unfold un3
    rw [← hb]
  obtain ⟨V3, c1, c2, c3⟩ := y_un98 (J := J) F (b := b) (by omega) 25 V2 0 (by omega) (by omega)
  have v3 : ∀ k, V3 436 k = undoA (V 436) c k := fun k => by
    rw [c3 k, v2, v2]
    unfold undoA
    rw [← hb, show (1425 : Int) + 0 = 1425 from rfl]
  have e3 : V3 436 3 = c := by rw [v3]; exact undoA_3 hc (by rw [← hb]; omega)
  rw [e3] at c1
  refine ⟨V3, ?_, fun a h => by rw [c2 a h, b2 a h, a2 a h]; simp (disch := first | decide | omega | (simp (disch := first | decide | omega) only [sv_s, sv_o, ur_s, ur_e, ur_o]; omega)) only [↓reduceIte, iv_add, iv_sub, iv_mul, iv_neg, iv_ltT, iv_ltF, iv_leT, iv_leF, iv_eqT, iv_eqF, iv_div, iv_mod, ↓bnI_s, ↓bnV_s, ↓bnJ_s, ↓bnR_s, rt_e, rt_0, rt_bz, sv_s, sv_o, ur_s, ur_e, ur_o, bz_T, bz_F, nat_eqF, Nat.reduceAdd], funext v3⟩
  rw [← c1, ← b1, ← a1]
  have s3 : c + 1 - 1 = c := by omega
  simp (disch := first | decide | omega | (simp (disch := first | decide | omega) only [sv_s, sv_o, ur_s, ur_e, ur_o]; omega)) only [↓reduceIte, iv_add, iv_sub, iv_mul, iv_neg, iv_ltT, iv_ltF, iv_leT, iv_leF, iv_eqT, iv_eqF, iv_div, iv_mod, ↓bnI_s, ↓bnV_s, ↓bnJ_s, ↓bnR_s, rt_e, rt_0, rt_bz, sv_s, sv_o, ur_s, ur_e, ur_o, bz_T, bz_F, nat_eqF, Nat.reduceAdd, ↓q_M_undo, ↓gR_435_0 F, ↓lI_436 F, ↓lI_437 F, ↓lI_438 F, ↓lI_439 F, ↓lI_440 F, ↓lI_441 F, ↓lI_443 F, ↓lI_444 F, ↓lI_445 F, ↓lI_446 F, ↓lI_447 F, ↓lI_448 F, ↓lI_449 F, ↓lI_450 F, ↓sI_436 F, ↓sI_437 F, ↓sI_438 F, ↓sI_439 F, ↓sI_440 F, ↓sI_441 F, ↓sI_443 F, ↓sI_444 F, ↓sI_445 F, ↓sI_446 F, ↓sI_447 F, ↓sI_448 F, ↓sI_449 F, ↓sI_450 F, ↓gd_435 F, il_0, il_1, il_3, il_11, il_27, il_37, il_42, il_165, h3, s3, ← hb]
end
