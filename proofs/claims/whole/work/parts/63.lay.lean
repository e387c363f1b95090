/-! SEATINGS in the model: the numbered row, the best -/
theorem iv_or {a b : Nat} : iv (a : Int) ||| iv (b : Int) = iv ((a ||| b : Nat) : Int) := by
  rw [iv_nat, iv_nat, iv_nat]
  apply Int32.toBitVec.inj
  show BitVec.ofNat 32 a ||| BitVec.ofNat 32 b = BitVec.ofNat 32 (a ||| b)
  exact BitVec.ofNat_or.symm
section
variable {V J : Vm} {z : Zz}
theorem y_factorial {m : Nat} (hm : m ≤ 5) {h : Mem} : cA m_M_factorial [.int (iv m)] h = some (.int (iv (fct m : Nat)), h) := by
  rcases (show m = 0 ∨ m = 1 ∨ m = 2 ∨ m = 3 ∨ m = 4 ∨ m = 5 by omega) with rfl | rfl | rfl | rfl | rfl | rfl
  · simp (disch := first | decide | omega | (simp (disch := first | decide | omega) only [sv_s, sv_o, ur_s, ur_e, ur_o]; omega)) only [↓reduceIte, iv_add, iv_sub, iv_mul, iv_neg, iv_ltT, iv_ltF, iv_leT, iv_leF, iv_eqT, iv_eqF, iv_div, iv_mod, ↓bnI_s, ↓bnV_s, ↓bnJ_s, ↓bnR_s, rt_e, rt_0, rt_bz, sv_s, sv_o, ur_s, ur_e, ur_o, bz_T, bz_F, nat_eqF, Nat.reduceAdd, ↓q_M_factorial, ↓q_M_factorial_4, il_0, il_1, il_2, il_4, Int.reduceAdd, Int.reduceMul, Int.cast_ofNat_Int]
    rfl
  · simp (disch := first | decide | omega | (simp (disch := first | decide | omega) only [sv_s, sv_o, ur_s, ur_e, ur_o]; omega)) only [↓reduceIte, iv_add, iv_sub, iv_mul, iv_neg, iv_ltT, iv_ltF, iv_leT, iv_leF, iv_eqT, iv_eqF, iv_div, iv_mod, ↓bnI_s, ↓bnV_s, ↓bnJ_s, ↓bnR_s, rt_e, rt_0, rt_bz, sv_s, sv_o, ur_s, ur_e, ur_o, bz_T, bz_F, nat_eqF, Nat.reduceAdd, ↓q_M_factorial, ↓q_M_factorial_4, il_0, il_1, il_2, il_4, Int.reduceAdd, Int.reduceMul, Int.cast_ofNat_Int]
    rfl
  · simp (disch := first | decide | omega | (simp (disch := first | decide | omega) only [sv_s, sv_o, ur_s, ur_e, ur_o]; omega)) only [↓reduceIte, iv_add, iv_sub, iv_mul, iv_neg, iv_ltT, iv_ltF, iv_leT, iv_leF, iv_eqT, iv_eqF, iv_div, iv_mod, ↓bnI_s, ↓bnV_s, ↓bnJ_s, ↓bnR_s, rt_e, rt_0, rt_bz, sv_s, sv_o, ur_s, ur_e, ur_o, bz_T, bz_F, nat_eqF, Nat.reduceAdd, ↓q_M_factorial, ↓q_M_factorial_4, il_0, il_1, il_2, il_4, Int.reduceAdd, Int.reduceMul, Int.cast_ofNat_Int]
    rfl
  · simp (disch := first | decide | omega | (simp (disch := first | decide | omega) only [sv_s, sv_o, ur_s, ur_e, ur_o]; omega)) only [↓reduceIte, iv_add, iv_sub, iv_mul, iv_neg, iv_ltT, iv_ltF, iv_leT, iv_leF, iv_eqT, iv_eqF, iv_div, iv_mod, ↓bnI_s, ↓bnV_s, ↓bnJ_s, ↓bnR_s, rt_e, rt_0, rt_bz, sv_s, sv_o, ur_s, ur_e, ur_o, bz_T, bz_F, nat_eqF, Nat.reduceAdd, ↓q_M_factorial, ↓q_M_factorial_4, il_0, il_1, il_2, il_4, Int.reduceAdd, Int.reduceMul, Int.cast_ofNat_Int]
    rfl
  · simp (disch := first | decide | omega | (simp (disch := first | decide | omega) only [sv_s, sv_o, ur_s, ur_e, ur_o]; omega)) only [↓reduceIte, iv_add, iv_sub, iv_mul, iv_neg, iv_ltT, iv_ltF, iv_leT, iv_leF, iv_eqT, iv_eqF, iv_div, iv_mod, ↓bnI_s, ↓bnV_s, ↓bnJ_s, ↓bnR_s, rt_e, rt_0, rt_bz, sv_s, sv_o, ur_s, ur_e, ur_o, bz_T, bz_F, nat_eqF, Nat.reduceAdd, ↓q_M_factorial, ↓q_M_factorial_4, il_0, il_1, il_2, il_4, Int.reduceAdd, Int.reduceMul, Int.cast_ofNat_Int]
    rfl
  · simp (disch := first | decide | omega | (simp (disch := first | decide | omega) only [sv_s, sv_o, ur_s, ur_e, ur_o]; omega)) only [↓reduceIte, iv_add, iv_sub, iv_mul, iv_neg, iv_ltT, iv_ltF, iv_leT, iv_leF, iv_eqT, iv_eqF, iv_div, iv_mod, ↓bnI_s, ↓bnV_s, ↓bnJ_s, ↓bnR_s, rt_e, rt_0, rt_bz, sv_s, sv_o, ur_s, ur_e, ur_o, bz_T, bz_F, nat_eqF, Nat.reduceAdd, ↓q_M_factorial, ↓q_M_factorial_4, il_0, il_1, il_2, il_4, Int.reduceAdd, Int.reduceMul, Int.cast_ofNat_Int]
    rfl
theorem y_factorial_n {h : Mem} : cA m_M_factorial [.int (iv (-1))] h = some (.int (iv 1), h) := by
  simp (disch := first | decide | omega | (simp (disch := first | decide | omega) only [sv_s, sv_o, ur_s, ur_e, ur_o]; omega)) only [↓reduceIte, iv_add, iv_sub, iv_mul, iv_neg, iv_ltT, iv_ltF, iv_leT, iv_leF, iv_eqT, iv_eqF, iv_div, iv_mod, ↓bnI_s, ↓bnV_s, ↓bnJ_s, ↓bnR_s, rt_e, rt_0, rt_bz, sv_s, sv_o, ur_s, ur_e, ur_o, bz_T, bz_F, nat_eqF, Nat.reduceAdd, ↓q_M_factorial, ↓q_M_factorial_4, il_0, il_1, il_2, il_4, Int.reduceAdd, Int.reduceMul]
theorem fct_5 {m : Nat} (hm : m ≤ 5) : 1 ≤ fct m ∧ fct m ≤ 120 := by
  rcases (show m = 0 ∨ m = 1 ∨ m = 2 ∨ m = 3 ∨ m = 4 ∨ m = 5 by omega) with rfl | rfl | rfl | rfl | rfl | rfl <;> decide
theorem y_pick (F : Fix z) {left used s : Nat} (hl : left ≤ 200) (hu : used < 64) (hs : s < 6) : ∀ (f skip k : Nat), k + f ≤ 8 → skip ≤ 200 → pickN used f skip k < k + f → pickN used f skip k < 6 → rX m_M_layRow m_M_layRow 63 [.ref 435, dd, .int (iv left), .int (iv used), .int (iv s), .int (iv skip), .int (iv k)] [] (em V J z) = rX m_M_layRow m_M_layRow 14 [.ref 435, dd, .int (iv left), .int (iv ((used ||| 2 ^ pickN used f skip k : Nat) : Int)), .int (iv ((s + 1 : Nat) : Int)), dd, dd] [] (em (sv V 445 s (pickN used f skip k : Nat)) J z) := by
  intro f
  induction f with
  | zero => intro skip k _ _ h; exact absurd h (by show ¬ k < k + 0; omega)
  | succ f ih =>
    intro skip k hk hsk h h6
    have b := sb_bit (s := used) (k := k) (by omega) (by omega)
    have hh := y_M_has (s := used) (k := k) (h := em V J z)
    have un : pickN used (f + 1) skip k = if used / 2 ^ k % 2 = 1 then pickN used f skip (k + 1) else if 0 < skip then pickN used f (skip - 1) (k + 1) else k := rfl
    rw [un] at h h6 ⊢
    by_cases q1 : used / 2 ^ k % 2 = 1
    · rw [if_pos q1] at h h6 ⊢
      rw [bz_T (b.mpr q1)] at hh
      rw [← ih skip (k + 1) (by omega) hsk (by omega) h6]
      (rw [q_M_layRow_63]; simp (disch := first | decide | omega | (simp (disch := first | decide | omega) only [sv_s, sv_o, ur_s, ur_e, ur_o]; omega)) only [↓reduceIte, iv_add, iv_sub, iv_mul, iv_neg, iv_ltT, iv_ltF, iv_leT, iv_leF, iv_eqT, iv_eqF, iv_div, iv_mod, ↓bnI_s, ↓bnV_s, ↓bnJ_s, ↓bnR_s, rt_e, rt_0, rt_bz, sv_s, sv_o, ur_s, ur_e, ur_o, bz_T, bz_F, nat_eqF, Nat.reduceAdd, ↓gR_435_26 F, ↓sI_436 F, ↓sI_437 F, ↓sI_438 F, ↓sI_439 F, ↓sI_440 F, ↓sI_441 F, ↓sI_443 F, ↓sI_444 F, ↓sI_445 F, ↓sI_446 F, ↓sI_447 F, ↓sI_448 F, ↓sI_449 F, ↓sI_450 F, il_0, il_1, il_11, il_14, il_26, il_31, il_63, il_77, ↓q_M_layRow_77, hh, Int.natCast_add, Int.natCast_one])
      rw [Int.sub_zero]
    · rw [if_neg q1] at h h6 ⊢
      rw [bz_F (fun e => q1 (b.mp e))] at hh
      by_cases q2 : 0 < skip
      · rw [if_pos q2] at h h6 ⊢
        rw [← ih (skip - 1) (k + 1) (by omega) (by omega) (by omega) h6, show ((skip - 1 : Nat) : Int) = (skip : Int) - 1 by omega]
        (rw [q_M_layRow_63]; simp (disch := first | decide | omega | (simp (disch := first | decide | omega) only [sv_s, sv_o, ur_s, ur_e, ur_o]; omega)) only [↓reduceIte, iv_add, iv_sub, iv_mul, iv_neg, iv_ltT, iv_ltF, iv_leT, iv_leF, iv_eqT, iv_eqF, iv_div, iv_mod, ↓bnI_s, ↓bnV_s, ↓bnJ_s, ↓bnR_s, rt_e, rt_0, rt_bz, sv_s, sv_o, ur_s, ur_e, ur_o, bz_T, bz_F, nat_eqF, Nat.reduceAdd, ↓gR_435_26 F, ↓sI_436 F, ↓sI_437 F, ↓sI_438 F, ↓sI_439 F, ↓sI_440 F, ↓sI_441 F, ↓sI_443 F, ↓sI_444 F, ↓sI_445 F, ↓sI_446 F, ↓sI_447 F, ↓sI_448 F, ↓sI_449 F, ↓sI_450 F, il_0, il_1, il_11, il_14, il_26, il_31, il_63, il_77, ↓q_M_layRow_77, hh, Int.natCast_add, Int.natCast_one])
      · rw [if_neg q2] at h h6 ⊢
        have sh : iv 1 <<< (iv (k : Int) &&& iv 31) = iv ((2 ^ k : Nat) : Int) := shl8 (by omega)
        (rw [q_M_layRow_63]; simp (disch := first | decide | omega | (simp (disch := first | decide | omega) only [sv_s, sv_o, ur_s, ur_e, ur_o]; omega)) only [↓reduceIte, iv_add, iv_sub, iv_mul, iv_neg, iv_ltT, iv_ltF, iv_leT, iv_leF, iv_eqT, iv_eqF, iv_div, iv_mod, ↓bnI_s, ↓bnV_s, ↓bnJ_s, ↓bnR_s, rt_e, rt_0, rt_bz, sv_s, sv_o, ur_s, ur_e, ur_o, bz_T, bz_F, nat_eqF, Nat.reduceAdd, ↓gR_435_26 F, ↓sI_436 F, ↓sI_437 F, ↓sI_438 F, ↓sI_439 F, ↓sI_440 F, ↓sI_441 F, ↓sI_443 F, ↓sI_444 F, ↓sI_445 F, ↓sI_446 F, ↓sI_447 F, ↓sI_448 F, ↓sI_449 F, ↓sI_450 F, il_0, il_1, il_11, il_14, il_26, il_31, il_63, il_77, hh, il_31, sh, iv_or, Int.natCast_add, Int.natCast_one])
theorem y_lay_s (F : Fix z) {n : Nat} (hn : 1 ≤ n ∧ n ≤ 6) : ∀ (m s left used : Nat) (V : Vm), s + m = n → 1 ≤ s → left ≤ 200 → used < 64 → V 436 0 = n → (∀ j, j < m → g0 (layN n m left used s) j < 6) → ∃ V', (∀ c, c ≠ 445 → V' c = V c) ∧ (∀ j : Int, j < s → V' 445 j = V 445 j) ∧ (∀ j : Nat, j < m → V' 445 ((s + j : Nat) : Int) = ((g0 (layN n m left used s) j : Nat) : Int)) ∧ rX m_M_layRow m_M_layRow 14 [.ref 435, dd, .int (iv left), .int (iv used), .int (iv s), dd, dd] [] (em V J z) = some (.null, em V' J z) := by
  intro m
  induction m with
  | zero =>
    intro s left used V hs h1 hl hu h0 hg
    refine ⟨V, fun _ _ => rfl, fun _ _ => rfl, fun j hj => absurd hj (Nat.not_lt_zero j), ?_⟩
    (rw [q_M_layRow_14]; simp (disch := first | decide | omega | (simp (disch := first | decide | omega) only [sv_s, sv_o, ur_s, ur_e, ur_o]; omega)) only [↓reduceIte, iv_add, iv_sub, iv_mul, iv_neg, iv_ltT, iv_ltF, iv_leT, iv_leF, iv_eqT, iv_eqF, iv_div, iv_mod, ↓bnI_s, ↓bnV_s, ↓bnJ_s, ↓bnR_s, rt_e, rt_0, rt_bz, sv_s, sv_o, ur_s, ur_e, ur_o, bz_T, bz_F, nat_eqF, Nat.reduceAdd, ↓gR_435_0 F, ↓lI_436 F, ↓lI_437 F, ↓lI_438 F, ↓lI_439 F, ↓lI_440 F, ↓lI_441 F, ↓lI_443 F, ↓lI_444 F, ↓lI_445 F, ↓lI_446 F, ↓lI_447 F, ↓lI_448 F, ↓lI_449 F, ↓lI_450 F, il_0, il_1, il_11, il_14, il_63, h0])
  | succ m ih =>
    intro s left used V hs h1 hl hu h0 hg
    have fl := fct_5 (m := n - 1 - s) (by omega)
    have ef := y_factorial (m := n - 1 - s) (by omega) (h := em V J z)
    rw [show ((n - 1 - s : Nat) : Int) = (n : Int) - 1 - s by omega] at ef
    have dl := Nat.div_le_self left (fct (n - 1 - s))
    have ml := Nat.mod_le left (fct (n - 1 - s))
    have p6 : pickN used 8 (left / fct (n - 1 - s)) 0 < 6 := hg 0 (by omega)
    have pk := y_pick (V := V) (J := J) F (left := left % fct (n - 1 - s)) (used := used) (s := s) (by omega) hu (by omega) 8 (left / fct (n - 1 - s)) 0 (by omega) (by omega) (by omega) p6
    have tl : ∀ j, g0 (layN n (m + 1) left used s) (j + 1) = g0 (layN n m (left % fct (n - 1 - s)) (used ||| 2 ^ pickN used 8 (left / fct (n - 1 - s)) 0) (s + 1)) j := fun j => rfl
    have hd : g0 (layN n (m + 1) left used s) 0 = pickN used 8 (left / fct (n - 1 - s)) 0 := rfl
    have uo : used ||| 2 ^ pickN used 8 (left / fct (n - 1 - s)) 0 < 64 := Nat.or_lt_two_pow (n := 6) hu (Nat.pow_lt_pow_right (by omega) p6)
    obtain ⟨V', f1, f2, f3, f4⟩ := ih (s + 1) (left % fct (n - 1 - s)) (used ||| 2 ^ pickN used 8 (left / fct (n - 1 - s)) 0) (sv V 445 s (pickN used 8 (left / fct (n - 1 - s)) 0 : Nat)) (by omega) (by omega) (by omega) uo (by simp (disch := first | decide | omega | (simp (disch := first | decide | omega) only [sv_s, sv_o, ur_s, ur_e, ur_o]; omega)) only [↓reduceIte, iv_add, iv_sub, iv_mul, iv_neg, iv_ltT, iv_ltF, iv_leT, iv_leF, iv_eqT, iv_eqF, iv_div, iv_mod, ↓bnI_s, ↓bnV_s, ↓bnJ_s, ↓bnR_s, rt_e, rt_0, rt_bz, sv_s, sv_o, ur_s, ur_e, ur_o, bz_T, bz_F, nat_eqF, Nat.reduceAdd, h0]) (fun j hj => by rw [← tl]; exact hg (j + 1) (by omega))
    refine ⟨V', fun c hc => (f1 c hc).trans (sv_o hc), fun j hj => ?_, fun j hj => ?_, ?_⟩
    · rw [f2 j (by omega)]; simp (disch := first | decide | omega | (simp (disch := first | decide | omega) only [sv_s, sv_o, ur_s, ur_e, ur_o]; omega)) only [↓reduceIte, iv_add, iv_sub, iv_mul, iv_neg, iv_ltT, iv_ltF, iv_leT, iv_leF, iv_eqT, iv_eqF, iv_div, iv_mod, ↓bnI_s, ↓bnV_s, ↓bnJ_s, ↓bnR_s, rt_e, rt_0, rt_bz, sv_s, sv_o, ur_s, ur_e, ur_o, bz_T, bz_F, nat_eqF, Nat.reduceAdd]
    · cases j with
      | zero =>
        rw [hd, f2 _ (by omega)]
        simp (disch := first | decide | omega | (simp (disch := first | decide | omega) only [sv_s, sv_o, ur_s, ur_e, ur_o]; omega)) only [↓reduceIte, iv_add, iv_sub, iv_mul, iv_neg, iv_ltT, iv_ltF, iv_leT, iv_leF, iv_eqT, iv_eqF, iv_div, iv_mod, ↓bnI_s, ↓bnV_s, ↓bnJ_s, ↓bnR_s, rt_e, rt_0, rt_bz, sv_s, sv_o, ur_s, ur_e, ur_o, bz_T, bz_F, nat_eqF, Nat.reduceAdd]
      | succ j =>
        rw [tl, ← f3 j (by omega), show s + (j + 1) = s + 1 + j by omega]
    · rw [← f4, ← pk, show (((0 : Nat)) : Int) = 0 from rfl]
      generalize fct (n - 1 - s) = f at *
      have e1 : (left : Int) / (f : Int) = ((left / f : Nat) : Int) := by rw [Int.natCast_ediv]
      have e2 : (left : Int) % (f : Int) = ((left % f : Nat) : Int) := by rw [Int.natCast_emod]
      (rw [q_M_layRow_14]; simp (disch := first | decide | omega | (simp (disch := first | decide | omega) only [sv_s, sv_o, ur_s, ur_e, ur_o]; omega)) only [↓reduceIte, iv_add, iv_sub, iv_mul, iv_neg, iv_ltT, iv_ltF, iv_leT, iv_leF, iv_eqT, iv_eqF, iv_div, iv_mod, ↓bnI_s, ↓bnV_s, ↓bnJ_s, ↓bnR_s, rt_e, rt_0, rt_bz, sv_s, sv_o, ur_s, ur_e, ur_o, bz_T, bz_F, nat_eqF, Nat.reduceAdd, ↓gR_435_0 F, ↓lI_436 F, ↓lI_437 F, ↓lI_438 F, ↓lI_439 F, ↓lI_440 F, ↓lI_441 F, ↓lI_443 F, ↓lI_444 F, ↓lI_445 F, ↓lI_446 F, ↓lI_447 F, ↓lI_448 F, ↓lI_449 F, ↓lI_450 F, il_0, il_1, il_11, il_14, il_63, h0, ef, e1, e2])
theorem y_layRow (F : Fix z) {n i : Nat} (hn : 1 ≤ n ∧ n ≤ 6) (hi : i < fct (n - 1)) (h0 : V 436 0 = n) : ∃ V', (∀ c, c ≠ 445 → V' c = V c) ∧ (∀ k : Int, 0 ≤ k → k < n → V' 445 k = rw n i k) ∧ cA m_M_layRow [.ref 435, .int (iv i)] (em V J z) = some (.null, em V' J z) := by
  have fl := fct_le hn.2
  obtain ⟨r1, r2, r3, -, -⟩ := (R_at hn.2).2 i hi
  have r3 := r3 (by omega)
  have tk : ∀ k, k < n → g0 (layL n i) k = g0 (rwL n i) k := fun k hk => by
    rw [r3]
    unfold g0
    rw [List.getD_eq_getElem?_getD, List.getD_eq_getElem?_getD, List.getElem?_take, if_pos hk]
  have tl : ∀ k, g0 (layL n i) (k + 1) = g0 (layN n (n - 1) i 1 1) k := fun k => rfl
  obtain ⟨V', f1, f2, f3, f4⟩ := y_lay_s (J := J) F hn (n - 1) 1 i 1 (sv V 445 0 0) (by omega) (by omega) (by omega) (by omega) (by simp (disch := first | decide | omega | (simp (disch := first | decide | omega) only [sv_s, sv_o, ur_s, ur_e, ur_o]; omega)) only [↓reduceIte, iv_add, iv_sub, iv_mul, iv_neg, iv_ltT, iv_ltF, iv_leT, iv_leF, iv_eqT, iv_eqF, iv_div, iv_mod, ↓bnI_s, ↓bnV_s, ↓bnJ_s, ↓bnR_s, rt_e, rt_0, rt_bz, sv_s, sv_o, ur_s, ur_e, ur_o, bz_T, bz_F, nat_eqF, Nat.reduceAdd, h0]) (fun j hj => by rw [← tl, tk (j + 1) (by omega)]; exact r2 (j + 1) (by omega))
  refine ⟨V', fun c hc => (f1 c hc).trans (sv_o hc), fun k k0 k1 => ?_, ?_⟩
  · obtain ⟨k, rfl⟩ := Int.eq_ofNat_of_zero_le k0
    show V' 445 (k : Int) = ((g0 (rwL n i) ((k : Int)).toNat : Nat) : Int)
    rw [Int.toNat_natCast, ← tk k (by omega)]
    cases k with
    | zero => rw [f2 _ (by omega)]; simp (disch := first | decide | omega | (simp (disch := first | decide | omega) only [sv_s, sv_o, ur_s, ur_e, ur_o]; omega)) only [↓reduceIte, iv_add, iv_sub, iv_mul, iv_neg, iv_ltT, iv_ltF, iv_leT, iv_leF, iv_eqT, iv_eqF, iv_div, iv_mod, ↓bnI_s, ↓bnV_s, ↓bnJ_s, ↓bnR_s, rt_e, rt_0, rt_bz, sv_s, sv_o, ur_s, ur_e, ur_o, bz_T, bz_F, nat_eqF, Nat.reduceAdd]; rfl
    | succ k =>
      have := f3 k (by omega)
      rw [show ((1 + k : Nat) : Int) = ((k + 1 : Nat) : Int) by omega] at this
      rw [this, tl]
  · rw [← f4]
    simp (disch := first | decide | omega | (simp (disch := first | decide | omega) only [sv_s, sv_o, ur_s, ur_e, ur_o]; omega)) only [↓reduceIte, iv_add, iv_sub, iv_mul, iv_neg, iv_ltT, iv_ltF, iv_leT, iv_leF, iv_eqT, iv_eqF, iv_div, iv_mod, ↓bnI_s, ↓bnV_s, ↓bnJ_s, ↓bnR_s, rt_e, rt_0, rt_bz, sv_s, sv_o, ur_s, ur_e, ur_o, bz_T, bz_F, nat_eqF, Nat.reduceAdd, ↓q_M_layRow, ↓gR_435_26 F, ↓sI_436 F, ↓sI_437 F, ↓sI_438 F, ↓sI_439 F, ↓sI_440 F, ↓sI_441 F, ↓sI_443 F, ↓sI_444 F, ↓sI_445 F, ↓sI_446 F, ↓sI_447 F, ↓sI_448 F, ↓sI_449 F, ↓sI_450 F, ↓gd_435 F, il_0, il_1, il_11, il_14, il_26, il_27]
    rfl
/-- the model's fields stand for so many rows weighed -/
def MS (V : Vm) (S : Int → Int) (n i : Nat) : Prop := V 435 28 = (if i = 0 then 1000000 else (wst S n i).1) ∧ V 435 30 = (wst S n i).2.1 ∧ V 435 29 = (wst S n i).2.2.1 ∧ (0 < i → ∀ k : Int, 0 ≤ k → k < n → V 446 k = rw n (wst S n i).2.2.2 k)
theorem y_best_c (F : Fix z) {n : Nat} (hn : n ≤ 6) {x : Int} : ∀ (m k : Nat) (V : Vm), k + m = n → V 436 0 = n → (∀ j : Int, 0 ≤ j → j < k → V 446 j = V 445 j) → ∃ V', (∀ c, c ≠ 446 → V' c = V c) ∧ (∀ j : Int, 0 ≤ j → j < n → V' 446 j = V 445 j) ∧ rX m_M_layBest m_M_layBest 133 [.ref 435, .int (iv x), dd, .int (iv k)] [] (em V J z) = rX m_M_layBest m_M_layBest 45 [.ref 435, .int (iv (x + 1)), dd, dd] [] (em V' J z) := by
  intro m
  induction m with
  | zero =>
    intro k V hk h0 h
    refine ⟨V, fun _ _ => rfl, fun j j0 j1 => h j j0 (by omega), ?_⟩
    (rw [q_M_layBest_133]; simp (disch := first | decide | omega | (simp (disch := first | decide | omega) only [sv_s, sv_o, ur_s, ur_e, ur_o]; omega)) only [↓reduceIte, iv_add, iv_sub, iv_mul, iv_neg, iv_ltT, iv_ltF, iv_leT, iv_leF, iv_eqT, iv_eqF, iv_div, iv_mod, ↓bnI_s, ↓bnV_s, ↓bnJ_s, ↓bnR_s, rt_e, rt_0, rt_bz, sv_s, sv_o, ur_s, ur_e, ur_o, bz_T, bz_F, nat_eqF, Nat.reduceAdd, ↓gR_435_0 F, ↓gR_435_27 F, ↓gR_435_26 F, ↓lI_436 F, ↓lI_437 F, ↓lI_438 F, ↓lI_439 F, ↓lI_440 F, ↓lI_441 F, ↓lI_443 F, ↓lI_444 F, ↓lI_445 F, ↓lI_446 F, ↓lI_447 F, ↓lI_448 F, ↓lI_449 F, ↓lI_450 F, ↓sI_436 F, ↓sI_437 F, ↓sI_438 F, ↓sI_439 F, ↓sI_440 F, ↓sI_441 F, ↓sI_443 F, ↓sI_444 F, ↓sI_445 F, ↓sI_446 F, ↓sI_447 F, ↓sI_448 F, ↓sI_449 F, ↓sI_450 F, il_0, il_1, il_11, il_26, il_27, il_45, il_133, h0])
  | succ m ih =>
    intro k V hk h0 h
    obtain ⟨V', f1, f2, f3⟩ := ih (k + 1) (sv V 446 k (V 445 k)) (by omega) (by simp (disch := first | decide | omega | (simp (disch := first | decide | omega) only [sv_s, sv_o, ur_s, ur_e, ur_o]; omega)) only [↓reduceIte, iv_add, iv_sub, iv_mul, iv_neg, iv_ltT, iv_ltF, iv_leT, iv_leF, iv_eqT, iv_eqF, iv_div, iv_mod, ↓bnI_s, ↓bnV_s, ↓bnJ_s, ↓bnR_s, rt_e, rt_0, rt_bz, sv_s, sv_o, ur_s, ur_e, ur_o, bz_T, bz_F, nat_eqF, Nat.reduceAdd, h0]) (fun j j0 j1 => by
      rw [sv_s, sv_o (by decide)]
      by_cases q : j = k
      · rw [q, ur_s]
      · rw [ur_o q]; exact h j j0 (by omega))
    refine ⟨V', fun c hc => (f1 c hc).trans (sv_o hc), fun j j0 j1 => by rw [f2 j j0 j1, sv_o (by decide)], ?_⟩
    rw [← f3]
    (rw [q_M_layBest_133]; simp (disch := first | decide | omega | (simp (disch := first | decide | omega) only [sv_s, sv_o, ur_s, ur_e, ur_o]; omega)) only [↓reduceIte, iv_add, iv_sub, iv_mul, iv_neg, iv_ltT, iv_ltF, iv_leT, iv_leF, iv_eqT, iv_eqF, iv_div, iv_mod, ↓bnI_s, ↓bnV_s, ↓bnJ_s, ↓bnR_s, rt_e, rt_0, rt_bz, sv_s, sv_o, ur_s, ur_e, ur_o, bz_T, bz_F, nat_eqF, Nat.reduceAdd, ↓gR_435_0 F, ↓gR_435_27 F, ↓gR_435_26 F, ↓lI_436 F, ↓lI_437 F, ↓lI_438 F, ↓lI_439 F, ↓lI_440 F, ↓lI_441 F, ↓lI_443 F, ↓lI_444 F, ↓lI_445 F, ↓lI_446 F, ↓lI_447 F, ↓lI_448 F, ↓lI_449 F, ↓lI_450 F, ↓sI_436 F, ↓sI_437 F, ↓sI_438 F, ↓sI_439 F, ↓sI_440 F, ↓sI_441 F, ↓sI_443 F, ↓sI_444 F, ↓sI_445 F, ↓sI_446 F, ↓sI_447 F, ↓sI_448 F, ↓sI_449 F, ↓sI_450 F, il_0, il_1, il_11, il_26, il_27, il_45, il_133, h0, Int.natCast_add, Int.natCast_one])
theorem y_layBest_l (F : Fix z) {S : Int → Int} (hS : SpO S) {n : Nat} (hn : 1 ≤ n ∧ n ≤ 6) : ∀ (m i : Nat) (V : Vm), i + m = fct (n - 1) → V 436 0 = n → (∀ k, 0 ≤ k → k < 36 → V 436 (35 + k) = S k) → MS V S n i → ∃ V', core V' = core V ∧ MS V' S n (fct (n - 1)) ∧ rX m_M_layBest m_M_layBest 45 [.ref 435, .int (iv i), dd, dd] [] (em V J z) = some (.null, em V' J z) := by
  have fl := fct_le hn.2
  have f5 : ∀ h : Mem, cA m_M_factorial [.int (iv ((n - 1 : Nat) : Int))] h = some (.int (iv (fct (n - 1) : Nat)), h) := fun h => y_factorial (by omega)
  have sa : ∀ V : Vm, V 436 0 = n → cA m_M_seatingsInAll [.ref 435] (em V J z) = some (.int (iv (fct (n - 1) : Nat)), em V J z) := fun V h0 => by
    have e := f5 (em V J z)
    rw [show ((n - 1 : Nat) : Int) = (n : Int) - 1 by omega] at e
    simp (disch := first | decide | omega | (simp (disch := first | decide | omega) only [sv_s, sv_o, ur_s, ur_e, ur_o]; omega)) only [↓reduceIte, iv_add, iv_sub, iv_mul, iv_neg, iv_ltT, iv_ltF, iv_leT, iv_leF, iv_eqT, iv_eqF, iv_div, iv_mod, ↓bnI_s, ↓bnV_s, ↓bnJ_s, ↓bnR_s, rt_e, rt_0, rt_bz, sv_s, sv_o, ur_s, ur_e, ur_o, bz_T, bz_F, nat_eqF, Nat.reduceAdd, ↓q_M_seatingsInAll, ↓gR_435_0 F, ↓lI_436 F, ↓lI_437 F, ↓lI_438 F, ↓lI_439 F, ↓lI_440 F, ↓lI_441 F, ↓lI_443 F, ↓lI_444 F, ↓lI_445 F, ↓lI_446 F, ↓lI_447 F, ↓lI_448 F, ↓lI_449 F, ↓lI_450 F, ↓gd_435 F, il_0, il_1, il_11, il_27, h0, e]
  intro m
  induction m with
  | zero =>
    intro i V hi h0 hA hM
    have es := sa V h0
    rw [show i = fct (n - 1) by omega] at *
    refine ⟨V, rfl, hM, ?_⟩
    (rw [q_M_layBest_45]; simp (disch := first | decide | omega | (simp (disch := first | decide | omega) only [sv_s, sv_o, ur_s, ur_e, ur_o]; omega)) only [↓reduceIte, iv_add, iv_sub, iv_mul, iv_neg, iv_ltT, iv_ltF, iv_leT, iv_leF, iv_eqT, iv_eqF, iv_div, iv_mod, ↓bnI_s, ↓bnV_s, ↓bnJ_s, ↓bnR_s, rt_e, rt_0, rt_bz, sv_s, sv_o, ur_s, ur_e, ur_o, bz_T, bz_F, nat_eqF, Nat.reduceAdd, ↓gR_435_0 F, ↓gI_435_30 F, ↓lI_436 F, ↓lI_437 F, ↓lI_438 F, ↓lI_439 F, ↓lI_440 F, ↓lI_441 F, ↓lI_443 F, ↓lI_444 F, ↓lI_445 F, ↓lI_446 F, ↓lI_447 F, ↓lI_448 F, ↓lI_449 F, ↓lI_450 F, il_0, il_1, il_11, il_30, il_45, il_89, es])
  | succ m ih =>
    intro i V hi h0 hA hM
    have es := sa V h0
    obtain ⟨V1, a1, a2, a3⟩ := y_layRow (V := V) (J := J) F hn (i := i) (by omega) h0
    have hW : WO (V1 445) n := fun k k0 k1 => by rw [a2 k k0 k1]; exact rw_wo hn.2 (by omega) k k0 k1
    have e1 := y_M_spiteOf (V := V1) (J := J) F (S := S) (n := n) (by rw [a1 436 (by decide)]; exact h0) (by omega) (fun k k0 k1 => by rw [a1 436 (by decide)]; exact hA k k0 k1) hS hW
    rw [spv_c (W' := rw n i) a2] at e1
    have v : 0 ≤ spv S (rw n i) n ∧ spv S (rw n i) n ≤ 594 := vv_rg hS hn.2 (by omega)
    obtain ⟨b1, b2, b3, b4⟩ := wst_rg hS hn.2 i (by omega)
    have un : wst S n (i + 1) = if (wst S n i).2.2.1 = 0 ∨ spv S (rw n i) n < (wst S n i).1 then (spv S (rw n i) n, max (wst S n i).2.1 (spv S (rw n i) n), 1, i) else ((wst S n i).1, max (wst S n i).2.1 (spv S (rw n i) n), (wst S n i).2.2.1 + (if spv S (rw n i) n = (wst S n i).1 then 1 else 0), (wst S n i).2.2.2) := rfl
    obtain ⟨m1, m2, m3, m4⟩ := hM
    have z0 : (wst S n i).2.2.1 = 0 ↔ i = 0 := by
      constructor
      · intro e
        by_cases q : i = 0
        · exact q
        · have := (b4 (by omega)).1; omega
      · intro e; subst e; rfl
    generalize spv S (rw n i) n = x at *
    have o1 : ∀ k, V1 435 k = V 435 k := fun k => by rw [a1 435 (by decide)]
    -- the first stretch: the most
    have s1 : rX m_M_layBest m_M_layBest 45 [.ref 435, .int (iv i), dd, dd] [] (em V J z) = rX m_M_layBest m_M_layBest 89 [.ref 435, .int (iv i), .int (iv x), dd] [.int (iv (max (V 435 30) x)), .ref 435] (em V1 J z) := by
      by_cases q : V 435 30 < x
      · rw [Int.max_eq_right (by omega)]
        (rw [q_M_layBest_45]; simp (disch := first | decide | omega | (simp (disch := first | decide | omega) only [sv_s, sv_o, ur_s, ur_e, ur_o]; omega)) only [↓reduceIte, iv_add, iv_sub, iv_mul, iv_neg, iv_ltT, iv_ltF, iv_leT, iv_leF, iv_eqT, iv_eqF, iv_div, iv_mod, ↓bnI_s, ↓bnV_s, ↓bnJ_s, ↓bnR_s, rt_e, rt_0, rt_bz, sv_s, sv_o, ur_s, ur_e, ur_o, bz_T, bz_F, nat_eqF, Nat.reduceAdd, ↓gR_435_0 F, ↓gI_435_30 F, ↓lI_436 F, ↓lI_437 F, ↓lI_438 F, ↓lI_439 F, ↓lI_440 F, ↓lI_441 F, ↓lI_443 F, ↓lI_444 F, ↓lI_445 F, ↓lI_446 F, ↓lI_447 F, ↓lI_448 F, ↓lI_449 F, ↓lI_450 F, il_0, il_1, il_11, il_30, il_45, il_89, es, h0, a3, e1, o1])
      · rw [Int.max_eq_left (by omega)]
        (rw [q_M_layBest_45]; simp (disch := first | decide | omega | (simp (disch := first | decide | omega) only [sv_s, sv_o, ur_s, ur_e, ur_o]; omega)) only [↓reduceIte, iv_add, iv_sub, iv_mul, iv_neg, iv_ltT, iv_ltF, iv_leT, iv_leF, iv_eqT, iv_eqF, iv_div, iv_mod, ↓bnI_s, ↓bnV_s, ↓bnJ_s, ↓bnR_s, rt_e, rt_0, rt_bz, sv_s, sv_o, ur_s, ur_e, ur_o, bz_T, bz_F, nat_eqF, Nat.reduceAdd, ↓gR_435_0 F, ↓gI_435_30 F, ↓lI_436 F, ↓lI_437 F, ↓lI_438 F, ↓lI_439 F, ↓lI_440 F, ↓lI_441 F, ↓lI_443 F, ↓lI_444 F, ↓lI_445 F, ↓lI_446 F, ↓lI_447 F, ↓lI_448 F, ↓lI_449 F, ↓lI_450 F, il_0, il_1, il_11, il_30, il_45, il_89, es, h0, a3, e1, o1])
    by_cases q : (wst S n i).2.2.1 = 0 ∨ x < (wst S n i).1
    · rw [if_pos q] at un
      have lt : x < V1 435 28 := by
        rw [o1, m1]
        split
        · omega
        · rename_i h
          rcases q with q | q
          · exact absurd (z0.mp q) h
          · exact q
      have rg : V1 435 28 ≤ 1000000 := by rw [o1, m1]; split <;> omega
      obtain ⟨V2, c1, c2, c3⟩ := y_best_c (J := J) F hn.2 (x := i) n 0 (sv (sv (sv V1 435 30 (max (V 435 30) x)) 435 28 x) 435 29 1) (by omega) (by simp (disch := first | decide | omega | (simp (disch := first | decide | omega) only [sv_s, sv_o, ur_s, ur_e, ur_o]; omega)) only [↓reduceIte, iv_add, iv_sub, iv_mul, iv_neg, iv_ltT, iv_ltF, iv_leT, iv_leF, iv_eqT, iv_eqF, iv_div, iv_mod, ↓bnI_s, ↓bnV_s, ↓bnJ_s, ↓bnR_s, rt_e, rt_0, rt_bz, sv_s, sv_o, ur_s, ur_e, ur_o, bz_T, bz_F, nat_eqF, Nat.reduceAdd]; rw [a1 436 (by decide)]; exact h0) (fun j j0 j1 => absurd j1 (by omega))
      have h5 : V2 435 = ur (ur (ur (V1 435) 30 (max (V 435 30) x)) 28 x) 29 1 := by rw [c1 435 (by decide), sv_s, sv_s, sv_s]
      obtain ⟨V', d1, d2, d3⟩ := ih (i + 1) V2 (by omega) (by rw [c1 436 (by decide)]; simp (disch := first | decide | omega | (simp (disch := first | decide | omega) only [sv_s, sv_o, ur_s, ur_e, ur_o]; omega)) only [↓reduceIte, iv_add, iv_sub, iv_mul, iv_neg, iv_ltT, iv_ltF, iv_leT, iv_leF, iv_eqT, iv_eqF, iv_div, iv_mod, ↓bnI_s, ↓bnV_s, ↓bnJ_s, ↓bnR_s, rt_e, rt_0, rt_bz, sv_s, sv_o, ur_s, ur_e, ur_o, bz_T, bz_F, nat_eqF, Nat.reduceAdd]; rw [a1 436 (by decide)]; exact h0) (fun k k0 k1 => by rw [c1 436 (by decide)]; simp (disch := first | decide | omega | (simp (disch := first | decide | omega) only [sv_s, sv_o, ur_s, ur_e, ur_o]; omega)) only [↓reduceIte, iv_add, iv_sub, iv_mul, iv_neg, iv_ltT, iv_ltF, iv_leT, iv_leF, iv_eqT, iv_eqF, iv_div, iv_mod, ↓bnI_s, ↓bnV_s, ↓bnJ_s, ↓bnR_s, rt_e, rt_0, rt_bz, sv_s, sv_o, ur_s, ur_e, ur_o, bz_T, bz_F, nat_eqF, Nat.reduceAdd]; rw [a1 436 (by decide)]; exact hA k k0 k1) ⟨by rw [h5, un, if_neg (by omega)]; simp (disch := first | decide | omega | (simp (disch := first | decide | omega) only [sv_s, sv_o, ur_s, ur_e, ur_o]; omega)) only [↓reduceIte, iv_add, iv_sub, iv_mul, iv_neg, iv_ltT, iv_ltF, iv_leT, iv_leF, iv_eqT, iv_eqF, iv_div, iv_mod, ↓bnI_s, ↓bnV_s, ↓bnJ_s, ↓bnR_s, rt_e, rt_0, rt_bz, sv_s, sv_o, ur_s, ur_e, ur_o, bz_T, bz_F, nat_eqF, Nat.reduceAdd], by rw [h5, un]; simp (disch := first | decide | omega | (simp (disch := first | decide | omega) only [sv_s, sv_o, ur_s, ur_e, ur_o]; omega)) only [↓reduceIte, iv_add, iv_sub, iv_mul, iv_neg, iv_ltT, iv_ltF, iv_leT, iv_leF, iv_eqT, iv_eqF, iv_div, iv_mod, ↓bnI_s, ↓bnV_s, ↓bnJ_s, ↓bnR_s, rt_e, rt_0, rt_bz, sv_s, sv_o, ur_s, ur_e, ur_o, bz_T, bz_F, nat_eqF, Nat.reduceAdd, m2], by rw [h5, un]; simp (disch := first | decide | omega | (simp (disch := first | decide | omega) only [sv_s, sv_o, ur_s, ur_e, ur_o]; omega)) only [↓reduceIte, iv_add, iv_sub, iv_mul, iv_neg, iv_ltT, iv_ltF, iv_leT, iv_leF, iv_eqT, iv_eqF, iv_div, iv_mod, ↓bnI_s, ↓bnV_s, ↓bnJ_s, ↓bnR_s, rt_e, rt_0, rt_bz, sv_s, sv_o, ur_s, ur_e, ur_o, bz_T, bz_F, nat_eqF, Nat.reduceAdd], fun _ k k0 k1 => by
        rw [c2 k k0 k1, un]
        simp (disch := first | decide | omega | (simp (disch := first | decide | omega) only [sv_s, sv_o, ur_s, ur_e, ur_o]; omega)) only [↓reduceIte, iv_add, iv_sub, iv_mul, iv_neg, iv_ltT, iv_ltF, iv_leT, iv_leF, iv_eqT, iv_eqF, iv_div, iv_mod, ↓bnI_s, ↓bnV_s, ↓bnJ_s, ↓bnR_s, rt_e, rt_0, rt_bz, sv_s, sv_o, ur_s, ur_e, ur_o, bz_T, bz_F, nat_eqF, Nat.reduceAdd]
        exact a2 k k0 k1⟩
      refine ⟨V', d1.trans (core_ext fun a k hs => ?_), d2, ?_⟩
      · by_cases q1 : a = 446
        · subst q1; rw [scr_T (by omega)] at hs; cases hs
        · by_cases q2 : a = 435
          · subst q2
            have : k ≠ 28 ∧ k ≠ 29 ∧ k ≠ 30 := by
              refine ⟨fun e => ?_, fun e => ?_, fun e => ?_⟩ <;> (subst e; rw [scr_T (by omega)] at hs; cases hs)
            rw [h5]
            simp (disch := first | decide | omega | (simp (disch := first | decide | omega) only [sv_s, sv_o, ur_s, ur_e, ur_o]; omega)) only [↓reduceIte, iv_add, iv_sub, iv_mul, iv_neg, iv_ltT, iv_ltF, iv_leT, iv_leF, iv_eqT, iv_eqF, iv_div, iv_mod, ↓bnI_s, ↓bnV_s, ↓bnJ_s, ↓bnR_s, rt_e, rt_0, rt_bz, sv_s, sv_o, ur_s, ur_e, ur_o, bz_T, bz_F, nat_eqF, Nat.reduceAdd]
            exact o1 k
          · by_cases q3 : a = 445
            · subst q3; rw [scr_T (by omega)] at hs; cases hs
            · rw [c1 a q1, sv_o q2, sv_o q2, sv_o q2, a1 a q3]
      · rw [s1, ← d3]
        have c3 : rX m_M_layBest m_M_layBest 133 [.ref 435, .int (iv i), dd, .int (iv 0)] [] (em (sv (sv (sv V1 435 30 (max (V 435 30) x)) 435 28 x) 435 29 1) J z) = rX m_M_layBest m_M_layBest 45 [.ref 435, .int (iv ((i : Int) + 1)), dd, dd] [] (em V2 J z) := c3
        (rw [q_M_layBest_89]; simp (disch := first | decide | omega | (simp (disch := first | decide | omega) only [sv_s, sv_o, ur_s, ur_e, ur_o]; omega)) only [↓reduceIte, iv_add, iv_sub, iv_mul, iv_neg, iv_ltT, iv_ltF, iv_leT, iv_leF, iv_eqT, iv_eqF, iv_div, iv_mod, ↓bnI_s, ↓bnV_s, ↓bnJ_s, ↓bnR_s, rt_e, rt_0, rt_bz, sv_s, sv_o, ur_s, ur_e, ur_o, bz_T, bz_F, nat_eqF, Nat.reduceAdd, ↓gI_435_28 F, ↓gI_435_29 F, ↓pI_435_30 F, ↓pI_435_29 F, ↓pI_435_28 F, il_0, il_1, il_11, il_28, il_29, il_30, il_45, il_89, il_110, il_133, ↓q_M_layBest_110, c3, Int.natCast_add, Int.natCast_one])
    · rw [if_neg q] at un
      have i0 : i ≠ 0 := fun e => q (Or.inl (z0.mpr e))
      rw [if_neg i0] at m1
      have le : (wst S n i).1 ≤ x := by
        have : ¬ x < (wst S n i).1 := fun e => q (Or.inr e)
        omega
      have coreV : ∀ G : Int, core (sv (sv V1 435 30 (max (V 435 30) x)) 435 29 G) = core V := fun G => by
        rw [core_w (by omega), core_w (by omega)]
        exact core_445 a1
      by_cases q3 : x = (wst S n i).1
      · rw [if_pos q3] at un
        obtain ⟨V', d1, d2, d3⟩ := ih (i + 1) (sv (sv V1 435 30 (max (V 435 30) x)) 435 29 (V1 435 29 + 1)) (by omega) (by simp (disch := first | decide | omega | (simp (disch := first | decide | omega) only [sv_s, sv_o, ur_s, ur_e, ur_o]; omega)) only [↓reduceIte, iv_add, iv_sub, iv_mul, iv_neg, iv_ltT, iv_ltF, iv_leT, iv_leF, iv_eqT, iv_eqF, iv_div, iv_mod, ↓bnI_s, ↓bnV_s, ↓bnJ_s, ↓bnR_s, rt_e, rt_0, rt_bz, sv_s, sv_o, ur_s, ur_e, ur_o, bz_T, bz_F, nat_eqF, Nat.reduceAdd]; rw [a1 436 (by decide)]; exact h0) (fun k k0 k1 => by simp (disch := first | decide | omega | (simp (disch := first | decide | omega) only [sv_s, sv_o, ur_s, ur_e, ur_o]; omega)) only [↓reduceIte, iv_add, iv_sub, iv_mul, iv_neg, iv_ltT, iv_ltF, iv_leT, iv_leF, iv_eqT, iv_eqF, iv_div, iv_mod, ↓bnI_s, ↓bnV_s, ↓bnJ_s, ↓bnR_s, rt_e, rt_0, rt_bz, sv_s, sv_o, ur_s, ur_e, ur_o, bz_T, bz_F, nat_eqF, Nat.reduceAdd]; rw [a1 436 (by decide)]; exact hA k k0 k1) ⟨by rw [un, if_neg (by omega)]; simp (disch := first | decide | omega | (simp (disch := first | decide | omega) only [sv_s, sv_o, ur_s, ur_e, ur_o]; omega)) only [↓reduceIte, iv_add, iv_sub, iv_mul, iv_neg, iv_ltT, iv_ltF, iv_leT, iv_leF, iv_eqT, iv_eqF, iv_div, iv_mod, ↓bnI_s, ↓bnV_s, ↓bnJ_s, ↓bnR_s, rt_e, rt_0, rt_bz, sv_s, sv_o, ur_s, ur_e, ur_o, bz_T, bz_F, nat_eqF, Nat.reduceAdd, o1]; exact m1, by rw [un]; simp (disch := first | decide | omega | (simp (disch := first | decide | omega) only [sv_s, sv_o, ur_s, ur_e, ur_o]; omega)) only [↓reduceIte, iv_add, iv_sub, iv_mul, iv_neg, iv_ltT, iv_ltF, iv_leT, iv_leF, iv_eqT, iv_eqF, iv_div, iv_mod, ↓bnI_s, ↓bnV_s, ↓bnJ_s, ↓bnR_s, rt_e, rt_0, rt_bz, sv_s, sv_o, ur_s, ur_e, ur_o, bz_T, bz_F, nat_eqF, Nat.reduceAdd, m2], by rw [un]; simp (disch := first | decide | omega | (simp (disch := first | decide | omega) only [sv_s, sv_o, ur_s, ur_e, ur_o]; omega)) only [↓reduceIte, iv_add, iv_sub, iv_mul, iv_neg, iv_ltT, iv_ltF, iv_leT, iv_leF, iv_eqT, iv_eqF, iv_div, iv_mod, ↓bnI_s, ↓bnV_s, ↓bnJ_s, ↓bnR_s, rt_e, rt_0, rt_bz, sv_s, sv_o, ur_s, ur_e, ur_o, bz_T, bz_F, nat_eqF, Nat.reduceAdd, o1, m3], fun _ k k0 k1 => by
          rw [un]
          simp (disch := first | decide | omega | (simp (disch := first | decide | omega) only [sv_s, sv_o, ur_s, ur_e, ur_o]; omega)) only [↓reduceIte, iv_add, iv_sub, iv_mul, iv_neg, iv_ltT, iv_ltF, iv_leT, iv_leF, iv_eqT, iv_eqF, iv_div, iv_mod, ↓bnI_s, ↓bnV_s, ↓bnJ_s, ↓bnR_s, rt_e, rt_0, rt_bz, sv_s, sv_o, ur_s, ur_e, ur_o, bz_T, bz_F, nat_eqF, Nat.reduceAdd]
          rw [a1 446 (by decide)]
          exact m4 (by omega) k k0 k1⟩
        refine ⟨V', d1.trans (coreV _), d2, ?_⟩
        rw [s1, ← d3]
        (rw [q_M_layBest_89]; simp (disch := first | decide | omega | (simp (disch := first | decide | omega) only [sv_s, sv_o, ur_s, ur_e, ur_o]; omega)) only [↓reduceIte, iv_add, iv_sub, iv_mul, iv_neg, iv_ltT, iv_ltF, iv_leT, iv_leF, iv_eqT, iv_eqF, iv_div, iv_mod, ↓bnI_s, ↓bnV_s, ↓bnJ_s, ↓bnR_s, rt_e, rt_0, rt_bz, sv_s, sv_o, ur_s, ur_e, ur_o, bz_T, bz_F, nat_eqF, Nat.reduceAdd, ↓gI_435_28 F, ↓gI_435_29 F, ↓pI_435_30 F, ↓pI_435_29 F, ↓pI_435_28 F, il_0, il_1, il_11, il_28, il_29, il_30, il_45, il_89, il_110, il_133, ↓q_M_layBest_110, o1, m1, Int.natCast_add, Int.natCast_one])
      · rw [if_neg q3] at un
        obtain ⟨V', d1, d2, d3⟩ := ih (i + 1) (sv V1 435 30 (max (V 435 30) x)) (by omega) (by simp (disch := first | decide | omega | (simp (disch := first | decide | omega) only [sv_s, sv_o, ur_s, ur_e, ur_o]; omega)) only [↓reduceIte, iv_add, iv_sub, iv_mul, iv_neg, iv_ltT, iv_ltF, iv_leT, iv_leF, iv_eqT, iv_eqF, iv_div, iv_mod, ↓bnI_s, ↓bnV_s, ↓bnJ_s, ↓bnR_s, rt_e, rt_0, rt_bz, sv_s, sv_o, ur_s, ur_e, ur_o, bz_T, bz_F, nat_eqF, Nat.reduceAdd]; rw [a1 436 (by decide)]; exact h0) (fun k k0 k1 => by simp (disch := first | decide | omega | (simp (disch := first | decide | omega) only [sv_s, sv_o, ur_s, ur_e, ur_o]; omega)) only [↓reduceIte, iv_add, iv_sub, iv_mul, iv_neg, iv_ltT, iv_ltF, iv_leT, iv_leF, iv_eqT, iv_eqF, iv_div, iv_mod, ↓bnI_s, ↓bnV_s, ↓bnJ_s, ↓bnR_s, rt_e, rt_0, rt_bz, sv_s, sv_o, ur_s, ur_e, ur_o, bz_T, bz_F, nat_eqF, Nat.reduceAdd]; rw [a1 436 (by decide)]; exact hA k k0 k1) ⟨by rw [un, if_neg (by omega)]; simp (disch := first | decide | omega | (simp (disch := first | decide | omega) only [sv_s, sv_o, ur_s, ur_e, ur_o]; omega)) only [↓reduceIte, iv_add, iv_sub, iv_mul, iv_neg, iv_ltT, iv_ltF, iv_leT, iv_leF, iv_eqT, iv_eqF, iv_div, iv_mod, ↓bnI_s, ↓bnV_s, ↓bnJ_s, ↓bnR_s, rt_e, rt_0, rt_bz, sv_s, sv_o, ur_s, ur_e, ur_o, bz_T, bz_F, nat_eqF, Nat.reduceAdd, o1]; exact m1, by rw [un]; simp (disch := first | decide | omega | (simp (disch := first | decide | omega) only [sv_s, sv_o, ur_s, ur_e, ur_o]; omega)) only [↓reduceIte, iv_add, iv_sub, iv_mul, iv_neg, iv_ltT, iv_ltF, iv_leT, iv_leF, iv_eqT, iv_eqF, iv_div, iv_mod, ↓bnI_s, ↓bnV_s, ↓bnJ_s, ↓bnR_s, rt_e, rt_0, rt_bz, sv_s, sv_o, ur_s, ur_e, ur_o, bz_T, bz_F, nat_eqF, Nat.reduceAdd, m2], by rw [un]; simp (disch := first | decide | omega | (simp (disch := first | decide | omega) only [sv_s, sv_o, ur_s, ur_e, ur_o]; omega)) only [↓reduceIte, iv_add, iv_sub, iv_mul, iv_neg, iv_ltT, iv_ltF, iv_leT, iv_leF, iv_eqT, iv_eqF, iv_div, iv_mod, ↓bnI_s, ↓bnV_s, ↓bnJ_s, ↓bnR_s, rt_e, rt_0, rt_bz, sv_s, sv_o, ur_s, ur_e, ur_o, bz_T, bz_F, nat_eqF, Nat.reduceAdd, o1, m3]; exact (Int.add_zero _).symm, fun _ k k0 k1 => by
          rw [un]
          simp (disch := first | decide | omega | (simp (disch := first | decide | omega) only [sv_s, sv_o, ur_s, ur_e, ur_o]; omega)) only [↓reduceIte, iv_add, iv_sub, iv_mul, iv_neg, iv_ltT, iv_ltF, iv_leT, iv_leF, iv_eqT, iv_eqF, iv_div, iv_mod, ↓bnI_s, ↓bnV_s, ↓bnJ_s, ↓bnR_s, rt_e, rt_0, rt_bz, sv_s, sv_o, ur_s, ur_e, ur_o, bz_T, bz_F, nat_eqF, Nat.reduceAdd]
          rw [a1 446 (by decide)]
          exact m4 (by omega) k k0 k1⟩
        refine ⟨V', d1.trans (by rw [core_w (by omega)]; exact core_445 a1), d2, ?_⟩
        rw [s1, ← d3]
        (rw [q_M_layBest_89]; simp (disch := first | decide | omega | (simp (disch := first | decide | omega) only [sv_s, sv_o, ur_s, ur_e, ur_o]; omega)) only [↓reduceIte, iv_add, iv_sub, iv_mul, iv_neg, iv_ltT, iv_ltF, iv_leT, iv_leF, iv_eqT, iv_eqF, iv_div, iv_mod, ↓bnI_s, ↓bnV_s, ↓bnJ_s, ↓bnR_s, rt_e, rt_0, rt_bz, sv_s, sv_o, ur_s, ur_e, ur_o, bz_T, bz_F, nat_eqF, Nat.reduceAdd, ↓gI_435_28 F, ↓gI_435_29 F, ↓pI_435_30 F, ↓pI_435_29 F, ↓pI_435_28 F, il_0, il_1, il_11, il_28, il_29, il_30, il_45, il_89, il_110, il_133, ↓q_M_layBest_110, o1, m1, Int.natCast_add, Int.natCast_one])
theorem y_layBest (F : Fix z) {S : Int → Int} (hS : SpO S) {n : Nat} (hn : 1 ≤ n ∧ n ≤ 6) (h0 : V 436 0 = n) (hA : ∀ k, 0 ≤ k → k < 36 → V 436 (35 + k) = S k) : ∃ V', core V' = core V ∧ MS V' S n (fct (n - 1)) ∧ cA m_M_layBest [.ref 435] (em V J z) = some (.null, em V' J z) := by
  obtain ⟨V', d1, d2, d3⟩ := y_layBest_l (J := J) F hS hn (fct (n - 1)) 0 (sv (sv (sv V 435 28 1000000) 435 29 0) 435 30 0) (by omega) (by simp (disch := first | decide | omega | (simp (disch := first | decide | omega) only [sv_s, sv_o, ur_s, ur_e, ur_o]; omega)) only [↓reduceIte, iv_add, iv_sub, iv_mul, iv_neg, iv_ltT, iv_ltF, iv_leT, iv_leF, iv_eqT, iv_eqF, iv_div, iv_mod, ↓bnI_s, ↓bnV_s, ↓bnJ_s, ↓bnR_s, rt_e, rt_0, rt_bz, sv_s, sv_o, ur_s, ur_e, ur_o, bz_T, bz_F, nat_eqF, Nat.reduceAdd, h0]) (fun k k0 k1 => by simp (disch := first | decide | omega | (simp (disch := first | decide | omega) only [sv_s, sv_o, ur_s, ur_e, ur_o]; omega)) only [↓reduceIte, iv_add, iv_sub, iv_mul, iv_neg, iv_ltT, iv_ltF, iv_leT, iv_leF, iv_eqT, iv_eqF, iv_div, iv_mod, ↓bnI_s, ↓bnV_s, ↓bnJ_s, ↓bnR_s, rt_e, rt_0, rt_bz, sv_s, sv_o, ur_s, ur_e, ur_o, bz_T, bz_F, nat_eqF, Nat.reduceAdd]; exact hA k k0 k1) ⟨by rw [if_pos rfl]; simp (disch := first | decide | omega | (simp (disch := first | decide | omega) only [sv_s, sv_o, ur_s, ur_e, ur_o]; omega)) only [↓reduceIte, iv_add, iv_sub, iv_mul, iv_neg, iv_ltT, iv_ltF, iv_leT, iv_leF, iv_eqT, iv_eqF, iv_div, iv_mod, ↓bnI_s, ↓bnV_s, ↓bnJ_s, ↓bnR_s, rt_e, rt_0, rt_bz, sv_s, sv_o, ur_s, ur_e, ur_o, bz_T, bz_F, nat_eqF, Nat.reduceAdd], by simp (disch := first | decide | omega | (simp (disch := first | decide | omega) only [sv_s, sv_o, ur_s, ur_e, ur_o]; omega)) only [↓reduceIte, iv_add, iv_sub, iv_mul, iv_neg, iv_ltT, iv_ltF, iv_leT, iv_leF, iv_eqT, iv_eqF, iv_div, iv_mod, ↓bnI_s, ↓bnV_s, ↓bnJ_s, ↓bnR_s, rt_e, rt_0, rt_bz, sv_s, sv_o, ur_s, ur_e, ur_o, bz_T, bz_F, nat_eqF, Nat.reduceAdd]; rfl, by simp (disch := first | decide | omega | (simp (disch := first | decide | omega) only [sv_s, sv_o, ur_s, ur_e, ur_o]; omega)) only [↓reduceIte, iv_add, iv_sub, iv_mul, iv_neg, iv_ltT, iv_ltF, iv_leT, iv_leF, iv_eqT, iv_eqF, iv_div, iv_mod, ↓bnI_s, ↓bnV_s, ↓bnJ_s, ↓bnR_s, rt_e, rt_0, rt_bz, sv_s, sv_o, ur_s, ur_e, ur_o, bz_T, bz_F, nat_eqF, Nat.reduceAdd]; rfl, fun h => absurd h (by omega)⟩
  refine ⟨V', d1.trans (by rw [core_w (by omega), core_w (by omega), core_w (by omega)]), d2, ?_⟩
  rw [← d3]
  simp (disch := first | decide | omega | (simp (disch := first | decide | omega) only [sv_s, sv_o, ur_s, ur_e, ur_o]; omega)) only [↓reduceIte, iv_add, iv_sub, iv_mul, iv_neg, iv_ltT, iv_ltF, iv_leT, iv_leF, iv_eqT, iv_eqF, iv_div, iv_mod, ↓bnI_s, ↓bnV_s, ↓bnJ_s, ↓bnR_s, rt_e, rt_0, rt_bz, sv_s, sv_o, ur_s, ur_e, ur_o, bz_T, bz_F, nat_eqF, Nat.reduceAdd, ↓q_M_layBest, ↓q_M_layBest_17, ↓gR_435_0 F, ↓lI_436 F, ↓lI_437 F, ↓lI_438 F, ↓lI_439 F, ↓lI_440 F, ↓lI_441 F, ↓lI_443 F, ↓lI_444 F, ↓lI_445 F, ↓lI_446 F, ↓lI_447 F, ↓lI_448 F, ↓lI_449 F, ↓lI_450 F, ↓gd_435 F, ↓pI_435_28 F, ↓pI_435_29 F, ↓pI_435_30 F, il_0, il_1, il_11, il_17, il_27, il_28, il_29, il_30, il_45, il_1000000, h0]
  rfl
theorem y_layBest_0 (F : Fix z) (h0 : V 436 0 = 0) : cA m_M_layBest [.ref 435] (em V J z) = some (.null, em (sv (sv (sv V 435 28 0) 435 29 1) 435 30 0) J z) := by
  have e := y_factorial_n (h := em (sv (sv (sv V 435 28 0) 435 29 1) 435 30 0) J z)
  have es : cA m_M_seatingsInAll [.ref 435] (em (sv (sv (sv V 435 28 0) 435 29 1) 435 30 0) J z) = some (.int (iv 1), em (sv (sv (sv V 435 28 0) 435 29 1) 435 30 0) J z) := by
    simp (disch := first | decide | omega | (simp (disch := first | decide | omega) only [sv_s, sv_o, ur_s, ur_e, ur_o]; omega)) only [↓reduceIte, iv_add, iv_sub, iv_mul, iv_neg, iv_ltT, iv_ltF, iv_leT, iv_leF, iv_eqT, iv_eqF, iv_div, iv_mod, ↓bnI_s, ↓bnV_s, ↓bnJ_s, ↓bnR_s, rt_e, rt_0, rt_bz, sv_s, sv_o, ur_s, ur_e, ur_o, bz_T, bz_F, nat_eqF, Nat.reduceAdd, ↓q_M_seatingsInAll, ↓gR_435_0 F, ↓lI_436 F, ↓lI_437 F, ↓lI_438 F, ↓lI_439 F, ↓lI_440 F, ↓lI_441 F, ↓lI_443 F, ↓lI_444 F, ↓lI_445 F, ↓lI_446 F, ↓lI_447 F, ↓lI_448 F, ↓lI_449 F, ↓lI_450 F, ↓gd_435 F, il_0, il_1, il_11, il_27, h0, Int.reduceSub, e]
  rw [show cA m_M_layBest [.ref 435] (em V J z) = rX m_M_layBest m_M_layBest 45 [.ref 435, .int (iv 0), dd, dd] [] (em (sv (sv (sv V 435 28 0) 435 29 1) 435 30 0) J z) by simp (disch := first | decide | omega | (simp (disch := first | decide | omega) only [sv_s, sv_o, ur_s, ur_e, ur_o]; omega)) only [↓reduceIte, iv_add, iv_sub, iv_mul, iv_neg, iv_ltT, iv_ltF, iv_leT, iv_leF, iv_eqT, iv_eqF, iv_div, iv_mod, ↓bnI_s, ↓bnV_s, ↓bnJ_s, ↓bnR_s, rt_e, rt_0, rt_bz, sv_s, sv_o, ur_s, ur_e, ur_o, bz_T, bz_F, nat_eqF, Nat.reduceAdd, ↓q_M_layBest, ↓q_M_layBest_17, ↓gR_435_0 F, ↓lI_436 F, ↓lI_437 F, ↓lI_438 F, ↓lI_439 F, ↓lI_440 F, ↓lI_441 F, ↓lI_443 F, ↓lI_444 F, ↓lI_445 F, ↓lI_446 F, ↓lI_447 F, ↓lI_448 F, ↓lI_449 F, ↓lI_450 F, ↓gd_435 F, ↓pI_435_28 F, ↓pI_435_29 F, ↓pI_435_30 F, il_0, il_1, il_11, il_17, il_27, il_28, il_29, il_30, il_45, il_1000000, h0]]
  (rw [q_M_layBest_45]; simp (disch := first | decide | omega | (simp (disch := first | decide | omega) only [sv_s, sv_o, ur_s, ur_e, ur_o]; omega)) only [↓reduceIte, iv_add, iv_sub, iv_mul, iv_neg, iv_ltT, iv_ltF, iv_leT, iv_leF, iv_eqT, iv_eqF, iv_div, iv_mod, ↓bnI_s, ↓bnV_s, ↓bnJ_s, ↓bnR_s, rt_e, rt_0, rt_bz, sv_s, sv_o, ur_s, ur_e, ur_o, bz_T, bz_F, nat_eqF, Nat.reduceAdd, ↓gR_435_0 F, ↓gI_435_30 F, ↓lI_436 F, ↓lI_437 F, ↓lI_438 F, ↓lI_439 F, ↓lI_440 F, ↓lI_441 F, ↓lI_443 F, ↓lI_444 F, ↓lI_445 F, ↓lI_446 F, ↓lI_447 F, ↓lI_448 F, ↓lI_449 F, ↓lI_450 F, il_0, il_1, il_11, il_30, il_45, il_89, es, h0])
end
