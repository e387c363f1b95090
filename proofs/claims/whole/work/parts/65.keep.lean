/-! one table becomes another -/
section
variable {V J : Vm} {z : Zz}
theorem y_rt2 {t s : Nat} (T : Tab z t) (S : Tab z s) (d : t + 6 ≤ s ∨ s + 6 ≤ t) {n : Int} (hn : 0 ≤ n ∧ n ≤ 6) : ∀ (m : Nat) (V : Vm) (i : Int), 0 ≤ i → i + m = n → ∃ V', rX m_Table_returnTo m_Table_returnTo 2 [.ref t, .ref s, .int (iv n), .int (iv i)] [] (em V J z) = rX m_Table_returnTo m_Table_returnTo 67 [.ref t, .ref s, dd, dd] [] (em V' J z) ∧ (∀ a, a ≠ t + 2 → a ≠ t + 3 → a ≠ t + 4 → V' a = V a) ∧ ∀ k, (V' (t + 2) k = if i ≤ k ∧ k < n then V (s + 2) k else V (t + 2) k) ∧ (V' (t + 3) k = if i ≤ k ∧ k < n then V (s + 3) k else V (t + 3) k) ∧ (V' (t + 4) k = if i ≤ k ∧ k < n then V (s + 4) k else V (t + 4) k) := by
  intro m
  induction m with
  | zero =>
    intro V i i0 hi
    have hi : i = n := by omega
    subst hi
    refine ⟨V, ?_, fun _ _ _ _ => rfl, fun k => ⟨?_, ?_, ?_⟩⟩
    · rw [q_Table_returnTo_2]
      by_cases q : i = 6
      · subst q; simp (disch := omega) only [iv_ltF, ↓reduceIte, il_6]
      · simp (disch := omega) only [iv_ltF, iv_ltT, ↓reduceIte, il_6]
    · rw [if_neg (by omega)]
    · rw [if_neg (by omega)]
    · rw [if_neg (by omega)]
  | succ m ih =>
    intro V i i0 hi
    have lp : rX m_Table_returnTo m_Table_returnTo 2 [.ref t, .ref s, .int (iv n), .int (iv i)] [] (em V J z) = rX m_Table_returnTo m_Table_returnTo 2 [.ref t, .ref s, .int (iv n), .int (iv (i + 1))] [] (em (sv (sv (sv V (t + 2) i (V (s + 2) i)) (t + 3) i (V (s + 3) i)) (t + 4) i (V (s + 4) i)) J z) := by
      (rw [q_Table_returnTo_2]; simp (disch := first | decide | omega | (simp (disch := first | decide | omega) only [sv_s, sv_o, ur_s, ur_e, ur_o]; omega)) only [↓reduceIte, iv_add, iv_sub, iv_mul, iv_neg, iv_ltT, iv_ltF, iv_leT, iv_leF, iv_eqT, iv_eqF, iv_div, iv_mod, ↓bnI_s, ↓bnV_s, ↓bnJ_s, ↓bnR_s, rt_e, rt_0, rt_bz, sv_s, sv_o, ur_s, ur_e, ur_o, bz_T, bz_F, nat_eqF, Nat.reduceAdd, ↓rT_1 T, ↓rT_2 T, ↓rT_3 T, il_0, il_1, il_2, il_3, il_6, il_7, il_67, ↓rT_1 S, ↓rT_2 S, ↓rT_3 S, y_get S.s2 (by decide), y_get S.s3 (by decide), y_get S.s4 (by decide), y_put T.s2 (by decide), y_put T.s3 (by decide), y_put T.s4 (by decide), pt_in, rd_in])
    obtain ⟨V', e1, e2, e3⟩ := ih (sv (sv (sv V (t + 2) i (V (s + 2) i)) (t + 3) i (V (s + 3) i)) (t + 4) i (V (s + 4) i)) (i + 1) (by omega) (by omega)
    refine ⟨V', lp.trans e1, fun a h1 h2 h3 => by rw [e2 a h1 h2 h3]; simp (disch := first | decide | omega | (simp (disch := first | decide | omega) only [sv_s, sv_o, ur_s, ur_e, ur_o]; omega)) only [↓reduceIte, iv_add, iv_sub, iv_mul, iv_neg, iv_ltT, iv_ltF, iv_leT, iv_leF, iv_eqT, iv_eqF, iv_div, iv_mod, ↓bnI_s, ↓bnV_s, ↓bnJ_s, ↓bnR_s, rt_e, rt_0, rt_bz, sv_s, sv_o, ur_s, ur_e, ur_o, bz_T, bz_F, nat_eqF, Nat.reduceAdd], fun k => ?_⟩
    obtain ⟨c1, c2, c3⟩ := e3 k
    rw [c1, c2, c3]
    by_cases q : k = i
    · subst q
      have n1 : ¬ (k + 1 ≤ k ∧ k < n) := by omega
      have n2 : k ≤ k ∧ k < n := by omega
      rw [if_neg n1, if_neg n1, if_neg n1, if_pos n2, if_pos n2, if_pos n2]
      simp (disch := first | decide | omega | (simp (disch := first | decide | omega) only [sv_s, sv_o, ur_s, ur_e, ur_o]; omega)) only [↓reduceIte, iv_add, iv_sub, iv_mul, iv_neg, iv_ltT, iv_ltF, iv_leT, iv_leF, iv_eqT, iv_eqF, iv_div, iv_mod, ↓bnI_s, ↓bnV_s, ↓bnJ_s, ↓bnR_s, rt_e, rt_0, rt_bz, sv_s, sv_o, ur_s, ur_e, ur_o, bz_T, bz_F, nat_eqF, Nat.reduceAdd, and_self]
    · by_cases w : i + 1 ≤ k ∧ k < n
      · rw [if_pos w, if_pos w, if_pos w, if_pos (by omega), if_pos (by omega), if_pos (by omega)]
        simp (disch := first | decide | omega | (simp (disch := first | decide | omega) only [sv_s, sv_o, ur_s, ur_e, ur_o]; omega)) only [↓reduceIte, iv_add, iv_sub, iv_mul, iv_neg, iv_ltT, iv_ltF, iv_leT, iv_leF, iv_eqT, iv_eqF, iv_div, iv_mod, ↓bnI_s, ↓bnV_s, ↓bnJ_s, ↓bnR_s, rt_e, rt_0, rt_bz, sv_s, sv_o, ur_s, ur_e, ur_o, bz_T, bz_F, nat_eqF, Nat.reduceAdd, and_self]
      · rw [if_neg w, if_neg w, if_neg w, if_neg (by omega), if_neg (by omega), if_neg (by omega)]
        simp (disch := first | decide | omega | (simp (disch := first | decide | omega) only [sv_s, sv_o, ur_s, ur_e, ur_o]; omega)) only [↓reduceIte, iv_add, iv_sub, iv_mul, iv_neg, iv_ltT, iv_ltF, iv_leT, iv_leF, iv_eqT, iv_eqF, iv_div, iv_mod, ↓bnI_s, ↓bnV_s, ↓bnJ_s, ↓bnR_s, rt_e, rt_0, rt_bz, sv_s, sv_o, ur_s, ur_e, ur_o, bz_T, bz_F, nat_eqF, Nat.reduceAdd, and_self]
theorem y_rt3 {t s : Nat} (T : Tab z t) (S : Tab z s) (d : t + 6 ≤ s ∨ s + 6 ≤ t) : ∀ (m : Nat) (V : Vm) (i : Int), 0 ≤ i → i + m = 25 → ∃ V', rX m_Table_returnTo m_Table_returnTo 101 [.ref t, .ref s, dd, .int (iv i)] [] (em V J z) = some (.null, em V' J z) ∧ (∀ a, a ≠ t + 5 → V' a = V a) ∧ ∀ k, V' (t + 5) k = if i ≤ k ∧ k < 25 then V (s + 5) k else V (t + 5) k := by
  intro m
  induction m with
  | zero =>
    intro V i i0 hi
    have hi : i = 25 := by omega
    subst hi
    exact ⟨V, (by (rw [q_Table_returnTo_101]; simp (disch := first | decide | omega | (simp (disch := first | decide | omega) only [sv_s, sv_o, ur_s, ur_e, ur_o]; omega)) only [↓reduceIte, iv_add, iv_sub, iv_mul, iv_neg, iv_ltT, iv_ltF, iv_leT, iv_leF, iv_eqT, iv_eqF, iv_div, iv_mod, ↓bnI_s, ↓bnV_s, ↓bnJ_s, ↓bnR_s, rt_e, rt_0, rt_bz, sv_s, sv_o, ur_s, ur_e, ur_o, bz_T, bz_F, nat_eqF, Nat.reduceAdd, ↓rT_4 T, ↓sT_1 T, ↓sT_2 T, ↓sT_3 T, ↓sT_4 T, ↓sT_5 T, ↓nT_1 T, ↓nT_2 T, ↓nT_3 T, ↓nT_4 T, ↓nT_5 T, il_0, il_1, il_4, il_7, il_101])), fun _ _ => rfl, fun k => by rw [if_neg (by omega)]⟩
  | succ m ih =>
    intro V i i0 hi
    have lp : rX m_Table_returnTo m_Table_returnTo 101 [.ref t, .ref s, dd, .int (iv i)] [] (em V J z) = rX m_Table_returnTo m_Table_returnTo 101 [.ref t, .ref s, dd, .int (iv (i + 1))] [] (em (sv V (t + 5) i (V (s + 5) i)) J z) := by
      (rw [q_Table_returnTo_101]; simp (disch := first | decide | omega | (simp (disch := first | decide | omega) only [sv_s, sv_o, ur_s, ur_e, ur_o]; omega)) only [↓reduceIte, iv_add, iv_sub, iv_mul, iv_neg, iv_ltT, iv_ltF, iv_leT, iv_leF, iv_eqT, iv_eqF, iv_div, iv_mod, ↓bnI_s, ↓bnV_s, ↓bnJ_s, ↓bnR_s, rt_e, rt_0, rt_bz, sv_s, sv_o, ur_s, ur_e, ur_o, bz_T, bz_F, nat_eqF, Nat.reduceAdd, ↓rT_4 T, ↓sT_1 T, ↓sT_2 T, ↓sT_3 T, ↓sT_4 T, ↓sT_5 T, ↓nT_1 T, ↓nT_2 T, ↓nT_3 T, ↓nT_4 T, ↓nT_5 T, il_0, il_1, il_4, il_7, il_101, ↓rT_4 S, y_get S.s5 (by decide), rd_in])
    obtain ⟨V', e1, e2, e3⟩ := ih (sv V (t + 5) i (V (s + 5) i)) (i + 1) (by omega) (by omega)
    refine ⟨V', lp.trans e1, fun a h1 => by rw [e2 a h1]; simp (disch := first | decide | omega | (simp (disch := first | decide | omega) only [sv_s, sv_o, ur_s, ur_e, ur_o]; omega)) only [↓reduceIte, iv_add, iv_sub, iv_mul, iv_neg, iv_ltT, iv_ltF, iv_leT, iv_leF, iv_eqT, iv_eqF, iv_div, iv_mod, ↓bnI_s, ↓bnV_s, ↓bnJ_s, ↓bnR_s, rt_e, rt_0, rt_bz, sv_s, sv_o, ur_s, ur_e, ur_o, bz_T, bz_F, nat_eqF, Nat.reduceAdd], fun k => ?_⟩
    rw [e3 k]
    by_cases q : k = i
    · subst q
      rw [if_neg (by omega), if_pos (by omega)]
      simp (disch := first | decide | omega | (simp (disch := first | decide | omega) only [sv_s, sv_o, ur_s, ur_e, ur_o]; omega)) only [↓reduceIte, iv_add, iv_sub, iv_mul, iv_neg, iv_ltT, iv_ltF, iv_leT, iv_leF, iv_eqT, iv_eqF, iv_div, iv_mod, ↓bnI_s, ↓bnV_s, ↓bnJ_s, ↓bnR_s, rt_e, rt_0, rt_bz, sv_s, sv_o, ur_s, ur_e, ur_o, bz_T, bz_F, nat_eqF, Nat.reduceAdd]
    · by_cases w : i + 1 ≤ k ∧ k < 25
      · rw [if_pos w, if_pos (by omega)]; simp (disch := first | decide | omega | (simp (disch := first | decide | omega) only [sv_s, sv_o, ur_s, ur_e, ur_o]; omega)) only [↓reduceIte, iv_add, iv_sub, iv_mul, iv_neg, iv_ltT, iv_ltF, iv_leT, iv_leF, iv_eqT, iv_eqF, iv_div, iv_mod, ↓bnI_s, ↓bnV_s, ↓bnJ_s, ↓bnR_s, rt_e, rt_0, rt_bz, sv_s, sv_o, ur_s, ur_e, ur_o, bz_T, bz_F, nat_eqF, Nat.reduceAdd]
      · rw [if_neg w, if_neg (by omega)]; simp (disch := first | decide | omega | (simp (disch := first | decide | omega) only [sv_s, sv_o, ur_s, ur_e, ur_o]; omega)) only [↓reduceIte, iv_add, iv_sub, iv_mul, iv_neg, iv_ltT, iv_ltF, iv_leT, iv_leF, iv_eqT, iv_eqF, iv_div, iv_mod, ↓bnI_s, ↓bnV_s, ↓bnJ_s, ↓bnR_s, rt_e, rt_0, rt_bz, sv_s, sv_o, ur_s, ur_e, ur_o, bz_T, bz_F, nat_eqF, Nat.reduceAdd]
/-- what the table at t bears when the one at s has been taken back to for the first n -/
def Rto (V V' : Vm) (t s : Nat) (n : Int) : Prop := (∀ a, a ≠ t → a ≠ t + 2 → a ≠ t + 3 → a ≠ t + 4 → a ≠ t + 5 → V' a = V a) ∧ (∀ k, k ≠ 6 → k ≠ 7 → k ≠ 8 → k ≠ 9 → V' t k = V t k) ∧ (V' t 6 = V s 6 ∧ V' t 7 = V s 7 ∧ V' t 8 = V s 8 ∧ V' t 9 = V s 9) ∧
  (∀ k, (V' (t + 2) k = if 0 ≤ k ∧ k < n then V (s + 2) k else V (t + 2) k) ∧ (V' (t + 3) k = if 0 ≤ k ∧ k < n then V (s + 3) k else V (t + 3) k) ∧ (V' (t + 4) k = if 0 ≤ k ∧ k < n then V (s + 4) k else V (t + 4) k)) ∧
  ∀ k, 0 ≤ k → k < 25 → V' (t + 5) k = V (s + 5) k
theorem y_returnTo {t s : Nat} (T : Tab z t) (S : Tab z s) (d : t + 6 ≤ s ∨ s + 6 ≤ t) {n : Int} (hn : 0 ≤ n ∧ n ≤ 6) : ∃ V', cA m_Table_returnTo [.ref t, .ref s, .int (iv n)] (em V J z) = some (.null, em V' J z) ∧ Rto V V' t s n := by
  obtain ⟨V1, a1, a2, a3⟩ := y_rt2 (J := J) T S d hn n.toNat V 0 (by omega) (by omega)
  have st : rX m_Table_returnTo m_Table_returnTo 67 [.ref t, .ref s, dd, dd] [] (em V1 J z) = rX m_Table_returnTo m_Table_returnTo 101 [.ref t, .ref s, dd, .int (iv 0)] [] (em (sv (sv (sv (sv V1 t 6 (V1 s 6)) t 7 (V1 s 7)) t 8 (V1 s 8)) t 9 (V1 s 9)) J z) := by
    (rw [q_Table_returnTo_67]; simp (disch := first | decide | omega | (simp (disch := first | decide | omega) only [sv_s, sv_o, ur_s, ur_e, ur_o]; omega)) only [↓reduceIte, iv_add, iv_sub, iv_mul, iv_neg, iv_ltT, iv_ltF, iv_leT, iv_leF, iv_eqT, iv_eqF, iv_div, iv_mod, ↓bnI_s, ↓bnV_s, ↓bnJ_s, ↓bnR_s, rt_e, rt_0, rt_bz, sv_s, sv_o, ur_s, ur_e, ur_o, bz_T, bz_F, nat_eqF, Nat.reduceAdd, ↓gT_6 T, ↓gT_7 T, ↓gT_8 T, ↓gT_9 T, ↓pT_6 T, ↓pT_7 T, ↓pT_8 T, ↓pT_9 T, il_0, il_1, il_6, il_7, il_8, il_9, il_67, il_101, ↓gT_6 S, ↓gT_7 S, ↓gT_8 S, ↓gT_9 S])
  obtain ⟨V2, b1, b2, b3⟩ := y_rt3 (J := J) T S d 25 (sv (sv (sv (sv V1 t 6 (V1 s 6)) t 7 (V1 s 7)) t 8 (V1 s 8)) t 9 (V1 s 9)) 0 (by omega) (by omega)
  refine ⟨V2, ?_, fun a h0 h2 h3 h4 h5 => ?_, fun k k6 k7 k8 k9 => ?_, ?_, fun k => ?_, fun k k0 k1 => ?_⟩
  · rw [q_Table_returnTo, gdT T]
    exact a1.trans (st.trans b1)
  · rw [b2 a h5]; simp (disch := first | decide | omega | (simp (disch := first | decide | omega) only [sv_s, sv_o, ur_s, ur_e, ur_o]; omega)) only [↓reduceIte, iv_add, iv_sub, iv_mul, iv_neg, iv_ltT, iv_ltF, iv_leT, iv_leF, iv_eqT, iv_eqF, iv_div, iv_mod, ↓bnI_s, ↓bnV_s, ↓bnJ_s, ↓bnR_s, rt_e, rt_0, rt_bz, sv_s, sv_o, ur_s, ur_e, ur_o, bz_T, bz_F, nat_eqF, Nat.reduceAdd, a2 a]
  · rw [b2 t (by omega), ← congrFun (a2 t (by omega) (by omega) (by omega)) k]; simp (disch := first | decide | omega | (simp (disch := first | decide | omega) only [sv_s, sv_o, ur_s, ur_e, ur_o]; omega)) only [↓reduceIte, iv_add, iv_sub, iv_mul, iv_neg, iv_ltT, iv_ltF, iv_leT, iv_leF, iv_eqT, iv_eqF, iv_div, iv_mod, ↓bnI_s, ↓bnV_s, ↓bnJ_s, ↓bnR_s, rt_e, rt_0, rt_bz, sv_s, sv_o, ur_s, ur_e, ur_o, bz_T, bz_F, nat_eqF, Nat.reduceAdd]
  · rw [b2 t (by omega), ← a2 s (by omega) (by omega) (by omega)]; simp (disch := first | decide | omega | (simp (disch := first | decide | omega) only [sv_s, sv_o, ur_s, ur_e, ur_o]; omega)) only [↓reduceIte, iv_add, iv_sub, iv_mul, iv_neg, iv_ltT, iv_ltF, iv_leT, iv_leF, iv_eqT, iv_eqF, iv_div, iv_mod, ↓bnI_s, ↓bnV_s, ↓bnJ_s, ↓bnR_s, rt_e, rt_0, rt_bz, sv_s, sv_o, ur_s, ur_e, ur_o, bz_T, bz_F, nat_eqF, Nat.reduceAdd, and_self]
  · rw [b2 (t + 2) (by omega), b2 (t + 3) (by omega), b2 (t + 4) (by omega)]
    have q := a3 k
    simp (disch := first | decide | omega | (simp (disch := first | decide | omega) only [sv_s, sv_o, ur_s, ur_e, ur_o]; omega)) only [↓reduceIte, iv_add, iv_sub, iv_mul, iv_neg, iv_ltT, iv_ltF, iv_leT, iv_leF, iv_eqT, iv_eqF, iv_div, iv_mod, ↓bnI_s, ↓bnV_s, ↓bnJ_s, ↓bnR_s, rt_e, rt_0, rt_bz, sv_s, sv_o, ur_s, ur_e, ur_o, bz_T, bz_F, nat_eqF, Nat.reduceAdd]
    exact q
  · rw [b3 k, if_pos (by omega), ← a2 (s + 5) (by omega) (by omega) (by omega)]; simp (disch := first | decide | omega | (simp (disch := first | decide | omega) only [sv_s, sv_o, ur_s, ur_e, ur_o]; omega)) only [↓reduceIte, iv_add, iv_sub, iv_mul, iv_neg, iv_ltT, iv_ltF, iv_leT, iv_leF, iv_eqT, iv_eqF, iv_div, iv_mod, ↓bnI_s, ↓bnV_s, ↓bnJ_s, ↓bnR_s, rt_e, rt_0, rt_bz, sv_s, sv_o, ur_s, ur_e, ur_o, bz_T, bz_F, nat_eqF, Nat.reduceAdd]
theorem y_bc {t s : Nat} (T : Tab z t) (S : Tab z s) (d : t + 6 ≤ s ∨ s + 6 ≤ t) : ∀ (m : Nat) (V : Vm) (i : Int), 0 ≤ i → i + m = 6 → ∃ V', rX m_Table_become m_Table_become 10 [.ref t, .ref s, .int (iv i)] [] (em V J z) = rX m_Table_become m_Table_become 10 [.ref t, .ref s, .int (iv 6)] [] (em V' J z) ∧ (∀ a, a ≠ t + 1 → V' a = V a) ∧ ∀ k, V' (t + 1) k = if i ≤ k ∧ k < 6 then V (s + 1) k else V (t + 1) k := by
  intro m
  induction m with
  | zero =>
    intro V i i0 hi
    have hi : i = 6 := by omega
    subst hi
    exact ⟨V, rfl, fun _ _ => rfl, fun k => by rw [if_neg (by omega)]⟩
  | succ m ih =>
    intro V i i0 hi
    have lp : rX m_Table_become m_Table_become 10 [.ref t, .ref s, .int (iv i)] [] (em V J z) = rX m_Table_become m_Table_become 10 [.ref t, .ref s, .int (iv (i + 1))] [] (em (sv V (t + 1) i (V (s + 1) i)) J z) := by
      (rw [q_Table_become_10]; simp (disch := first | decide | omega | (simp (disch := first | decide | omega) only [sv_s, sv_o, ur_s, ur_e, ur_o]; omega)) only [↓reduceIte, iv_add, iv_sub, iv_mul, iv_neg, iv_ltT, iv_ltF, iv_leT, iv_leF, iv_eqT, iv_eqF, iv_div, iv_mod, ↓bnI_s, ↓bnV_s, ↓bnJ_s, ↓bnR_s, rt_e, rt_0, rt_bz, sv_s, sv_o, ur_s, ur_e, ur_o, bz_T, bz_F, nat_eqF, Nat.reduceAdd, ↓rT_0 T, ↓sT_1 T, ↓sT_2 T, ↓sT_3 T, ↓sT_4 T, ↓sT_5 T, ↓nT_1 T, ↓nT_2 T, ↓nT_3 T, ↓nT_4 T, ↓nT_5 T, il_0, il_1, il_6, il_7, il_10, ↓rT_0 S, y_get S.s1 (by decide), rd_in])
    obtain ⟨V', e1, e2, e3⟩ := ih (sv V (t + 1) i (V (s + 1) i)) (i + 1) (by omega) (by omega)
    refine ⟨V', lp.trans e1, fun a h1 => by rw [e2 a h1]; simp (disch := first | decide | omega | (simp (disch := first | decide | omega) only [sv_s, sv_o, ur_s, ur_e, ur_o]; omega)) only [↓reduceIte, iv_add, iv_sub, iv_mul, iv_neg, iv_ltT, iv_ltF, iv_leT, iv_leF, iv_eqT, iv_eqF, iv_div, iv_mod, ↓bnI_s, ↓bnV_s, ↓bnJ_s, ↓bnR_s, rt_e, rt_0, rt_bz, sv_s, sv_o, ur_s, ur_e, ur_o, bz_T, bz_F, nat_eqF, Nat.reduceAdd], fun k => ?_⟩
    rw [e3 k]
    by_cases q : k = i
    · subst q
      rw [if_neg (by omega), if_pos (by omega)]
      simp (disch := first | decide | omega | (simp (disch := first | decide | omega) only [sv_s, sv_o, ur_s, ur_e, ur_o]; omega)) only [↓reduceIte, iv_add, iv_sub, iv_mul, iv_neg, iv_ltT, iv_ltF, iv_leT, iv_leF, iv_eqT, iv_eqF, iv_div, iv_mod, ↓bnI_s, ↓bnV_s, ↓bnJ_s, ↓bnR_s, rt_e, rt_0, rt_bz, sv_s, sv_o, ur_s, ur_e, ur_o, bz_T, bz_F, nat_eqF, Nat.reduceAdd]
    · by_cases w : i + 1 ≤ k ∧ k < 6
      · rw [if_pos w, if_pos (by omega)]; simp (disch := first | decide | omega | (simp (disch := first | decide | omega) only [sv_s, sv_o, ur_s, ur_e, ur_o]; omega)) only [↓reduceIte, iv_add, iv_sub, iv_mul, iv_neg, iv_ltT, iv_ltF, iv_leT, iv_leF, iv_eqT, iv_eqF, iv_div, iv_mod, ↓bnI_s, ↓bnV_s, ↓bnJ_s, ↓bnR_s, rt_e, rt_0, rt_bz, sv_s, sv_o, ur_s, ur_e, ur_o, bz_T, bz_F, nat_eqF, Nat.reduceAdd]
      · rw [if_neg w, if_neg (by omega)]; simp (disch := first | decide | omega | (simp (disch := first | decide | omega) only [sv_s, sv_o, ur_s, ur_e, ur_o]; omega)) only [↓reduceIte, iv_add, iv_sub, iv_mul, iv_neg, iv_ltT, iv_ltF, iv_leT, iv_leF, iv_eqT, iv_eqF, iv_div, iv_mod, ↓bnI_s, ↓bnV_s, ↓bnJ_s, ↓bnR_s, rt_e, rt_0, rt_bz, sv_s, sv_o, ur_s, ur_e, ur_o, bz_T, bz_F, nat_eqF, Nat.reduceAdd]
/-- what the table at t bears when it has become the one at s -/
def Bec (V V' : Vm) (t s : Nat) : Prop := (∀ a, a < t ∨ t + 6 ≤ a → V' a = V a) ∧ (V' t 5 = V s 5 ∧ V' t 6 = V s 6 ∧ V' t 7 = V s 7 ∧ V' t 8 = V s 8 ∧ V' t 9 = V s 9) ∧
  (∀ k, 0 ≤ k → k < 6 → V' (t + 1) k = V (s + 1) k ∧ V' (t + 2) k = V (s + 2) k ∧ V' (t + 3) k = V (s + 3) k ∧ V' (t + 4) k = V (s + 4) k) ∧
  ∀ k, 0 ≤ k → k < 25 → V' (t + 5) k = V (s + 5) k
theorem y_become {t s : Nat} (T : Tab z t) (S : Tab z s) (d : t + 6 ≤ s ∨ s + 6 ≤ t) : ∃ V', cA m_Table_become [.ref t, .ref s] (em V J z) = some (.null, em V' J z) ∧ Bec V V' t s := by
  obtain ⟨V1, a1, a2, a3⟩ := y_bc (J := J) T S d 6 (sv V t 5 (V s 5)) 0 (by omega) (by omega)
  obtain ⟨V2, b1, b2, b3, b4, b5, b6⟩ := y_returnTo (V := V1) (J := J) T S d (n := 6) (by omega)
  have st : cA m_Table_become [.ref t, .ref s] (em V J z) = rX m_Table_become m_Table_become 10 [.ref t, .ref s, .int (iv 0)] [] (em (sv V t 5 (V s 5)) J z) := by
    simp (disch := first | decide | omega | (simp (disch := first | decide | omega) only [sv_s, sv_o, ur_s, ur_e, ur_o]; omega)) only [↓reduceIte, iv_add, iv_sub, iv_mul, iv_neg, iv_ltT, iv_ltF, iv_leT, iv_leF, iv_eqT, iv_eqF, iv_div, iv_mod, ↓bnI_s, ↓bnV_s, ↓bnJ_s, ↓bnR_s, rt_e, rt_0, rt_bz, sv_s, sv_o, ur_s, ur_e, ur_o, bz_T, bz_F, nat_eqF, Nat.reduceAdd, ↓q_Table_become, ↓gT_5 T, ↓pT_5 T, ↓gdT T, il_0, il_1, il_5, il_7, il_10, il_23, ↓gT_5 S]
  have en : rX m_Table_become m_Table_become 10 [.ref t, .ref s, .int (iv 6)] [] (em V1 J z) = some (.null, em V2 J z) := by
    rw [q_Table_become_10, rT_0 T, nT_1 T, if_neg (of_eq_false (iv_ltF (by omega))), il_6, b1]
    rfl
  refine ⟨V2, st.trans (a1.trans en), fun a h => ?_, ?_, fun k k0 k1 => ?_, fun k k0 k1 => ?_⟩
  · rw [b2 a (by omega) (by omega) (by omega) (by omega) (by omega), a2 a (by omega)]; simp (disch := first | decide | omega | (simp (disch := first | decide | omega) only [sv_s, sv_o, ur_s, ur_e, ur_o]; omega)) only [↓reduceIte, iv_add, iv_sub, iv_mul, iv_neg, iv_ltT, iv_ltF, iv_leT, iv_leF, iv_eqT, iv_eqF, iv_div, iv_mod, ↓bnI_s, ↓bnV_s, ↓bnJ_s, ↓bnR_s, rt_e, rt_0, rt_bz, sv_s, sv_o, ur_s, ur_e, ur_o, bz_T, bz_F, nat_eqF, Nat.reduceAdd]
  · obtain ⟨c6, c7, c8, c9⟩ := b4
    rw [b3 5 (by decide) (by decide) (by decide) (by decide), c6, c7, c8, c9, a2 t (by omega), a2 s (by omega)]
    simp (disch := first | decide | omega | (simp (disch := first | decide | omega) only [sv_s, sv_o, ur_s, ur_e, ur_o]; omega)) only [↓reduceIte, iv_add, iv_sub, iv_mul, iv_neg, iv_ltT, iv_ltF, iv_leT, iv_leF, iv_eqT, iv_eqF, iv_div, iv_mod, ↓bnI_s, ↓bnV_s, ↓bnJ_s, ↓bnR_s, rt_e, rt_0, rt_bz, sv_s, sv_o, ur_s, ur_e, ur_o, bz_T, bz_F, nat_eqF, Nat.reduceAdd, and_self]
  · obtain ⟨c2, c3, c4⟩ := b5 k
    rw [b2 (t + 1) (by omega) (by omega) (by omega) (by omega) (by omega), a3 k, c2, c3, c4, if_pos (by omega), if_pos (by omega), if_pos (by omega), if_pos (by omega), a2 (s + 2) (by omega), a2 (s + 3) (by omega), a2 (s + 4) (by omega)]
    simp (disch := first | decide | omega | (simp (disch := first | decide | omega) only [sv_s, sv_o, ur_s, ur_e, ur_o]; omega)) only [↓reduceIte, iv_add, iv_sub, iv_mul, iv_neg, iv_ltT, iv_ltF, iv_leT, iv_leF, iv_eqT, iv_eqF, iv_div, iv_mod, ↓bnI_s, ↓bnV_s, ↓bnJ_s, ↓bnR_s, rt_e, rt_0, rt_bz, sv_s, sv_o, ur_s, ur_e, ur_o, bz_T, bz_F, nat_eqF, Nat.reduceAdd, and_self]
  · rw [b6 k k0 k1, a2 (s + 5) (by omega)]; simp (disch := first | decide | omega | (simp (disch := first | decide | omega) only [sv_s, sv_o, ur_s, ur_e, ur_o]; omega)) only [↓reduceIte, iv_add, iv_sub, iv_mul, iv_neg, iv_ltT, iv_ltF, iv_leT, iv_leF, iv_eqT, iv_eqF, iv_div, iv_mod, ↓bnI_s, ↓bnV_s, ↓bnJ_s, ↓bnR_s, rt_e, rt_0, rt_bz, sv_s, sv_o, ur_s, ur_e, ur_o, bz_T, bz_F, nat_eqF, Nat.reduceAdd]
end
