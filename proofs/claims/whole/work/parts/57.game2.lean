/-! A GAME and A BITE: the calls -/
section
variable {V J : Vm} {z : Zz}
theorem y_lay_l2 (F : Fix z) {n : Nat} (hn : n < 7776) : ∀ (m k : Nat) (V : Vm), k + m = n → 1 ≤ k → WOk V k → ∃ V', (∀ a, a ≠ 450 → V' a = V a) ∧ WOk V' n ∧ rX m_M_layWins m_M_layWins 9 [.ref 435, .int (iv n), .int (iv k)] [] (em V J z) = some (.null, em V' J z) := by
  intro m
  induction m with
  | zero =>
    intro k V hk k1 hW
    have e : k = n := by omega
    subst e
    refine ⟨V, fun _ _ => rfl, hW, ?_⟩
    (rw [q_M_layWins_9]; simp (disch := first | decide | omega | (simp (disch := first | decide | omega) only [sv_s, sv_o, ur_s, ur_e, ur_o]; omega)) only [↓reduceIte, iv_add, iv_sub, iv_mul, iv_neg, iv_ltT, iv_ltF, iv_leT, iv_leF, iv_eqT, iv_eqF, iv_div, iv_mod, ↓bnI_s, ↓bnV_s, ↓bnJ_s, ↓bnR_s, rt_e, rt_0, rt_bz, sv_s, sv_o, ur_s, ur_e, ur_o, bz_T, bz_F, nat_eqF, Nat.reduceAdd, ↓gR_435_38 F, ↓sI_436 F, ↓sI_437 F, ↓sI_438 F, ↓sI_439 F, ↓sI_440 F, ↓sI_441 F, ↓sI_443 F, ↓sI_444 F, ↓sI_445 F, ↓sI_446 F, ↓sI_447 F, ↓sI_448 F, ↓sI_449 F, ↓sI_450 F, il_0, il_1, il_9, il_11, il_38])
  | succ m ih =>
    intro k V hk k1 hW
    have es := y_M_isShape (v := k) (h := em V J z) (by omega)
    by_cases hd : vd k = true
    · rw [bz_T hd] at es
      have eb := y_biteOf (J := J) F (v := k) (by omega) hd hW
      obtain ⟨l1, l2⟩ := enc_lose (v := k) (by omega) hd (by omega)
      generalize enc (findr (fun r c => lose (T10n (b06 k r c))) (w06 k) 5 0) = x at *
      by_cases q : lose (T10n k) = true
      · have hx := l1.mpr q
        obtain ⟨V', f1, f2, f3⟩ := ih (k + 1) (sv V 450 k 0) (by omega) (by omega) (fun j hj hv => by
          rw [sv_s]
          by_cases e : j = k
          · rw [e, ur_s, if_pos q]
          · rw [ur_o (by omega)]; exact hW j (by omega) hv)
        refine ⟨V', fun a ha => (f1 a ha).trans (sv_o ha), f2, ?_⟩
        rw [← f3]
        (rw [q_M_layWins_9]; simp (disch := first | decide | omega | (simp (disch := first | decide | omega) only [sv_s, sv_o, ur_s, ur_e, ur_o]; omega)) only [↓reduceIte, iv_add, iv_sub, iv_mul, iv_neg, iv_ltT, iv_ltF, iv_leT, iv_leF, iv_eqT, iv_eqF, iv_div, iv_mod, ↓bnI_s, ↓bnV_s, ↓bnJ_s, ↓bnR_s, rt_e, rt_0, rt_bz, sv_s, sv_o, ur_s, ur_e, ur_o, bz_T, bz_F, nat_eqF, Nat.reduceAdd, ↓gR_435_38 F, ↓sI_436 F, ↓sI_437 F, ↓sI_438 F, ↓sI_439 F, ↓sI_440 F, ↓sI_441 F, ↓sI_443 F, ↓sI_444 F, ↓sI_445 F, ↓sI_446 F, ↓sI_447 F, ↓sI_448 F, ↓sI_449 F, ↓sI_450 F, il_0, il_1, il_9, il_11, il_38, es, eb, hx, Int.natCast_add, Int.natCast_one])
      · have hx : x ≠ -1 := fun e => q (l1.mp e)
        obtain ⟨V', f1, f2, f3⟩ := ih (k + 1) (sv V 450 k 1) (by omega) (by omega) (fun j hj hv => by
          rw [sv_s]
          by_cases e : j = k
          · rw [e, ur_s, if_neg q]
          · rw [ur_o (by omega)]; exact hW j (by omega) hv)
        refine ⟨V', fun a ha => (f1 a ha).trans (sv_o ha), f2, ?_⟩
        rw [← f3]
        (rw [q_M_layWins_9]; simp (disch := first | decide | omega | (simp (disch := first | decide | omega) only [sv_s, sv_o, ur_s, ur_e, ur_o]; omega)) only [↓reduceIte, iv_add, iv_sub, iv_mul, iv_neg, iv_ltT, iv_ltF, iv_leT, iv_leF, iv_eqT, iv_eqF, iv_div, iv_mod, ↓bnI_s, ↓bnV_s, ↓bnJ_s, ↓bnR_s, rt_e, rt_0, rt_bz, sv_s, sv_o, ur_s, ur_e, ur_o, bz_T, bz_F, nat_eqF, Nat.reduceAdd, ↓gR_435_38 F, ↓sI_436 F, ↓sI_437 F, ↓sI_438 F, ↓sI_439 F, ↓sI_440 F, ↓sI_441 F, ↓sI_443 F, ↓sI_444 F, ↓sI_445 F, ↓sI_446 F, ↓sI_447 F, ↓sI_448 F, ↓sI_449 F, ↓sI_450 F, il_0, il_1, il_9, il_11, il_38, es, eb, Int.natCast_add, Int.natCast_one])
    · rw [bz_F hd] at es
      obtain ⟨V', f1, f2, f3⟩ := ih (k + 1) V (by omega) (by omega) (fun j hj hv => by
        by_cases e : j = k
        · rw [e] at hv; exact absurd hv hd
        · exact hW j (by omega) hv)
      refine ⟨V', f1, f2, ?_⟩
      rw [← f3]
      (rw [q_M_layWins_9]; simp (disch := first | decide | omega | (simp (disch := first | decide | omega) only [sv_s, sv_o, ur_s, ur_e, ur_o]; omega)) only [↓reduceIte, iv_add, iv_sub, iv_mul, iv_neg, iv_ltT, iv_ltF, iv_leT, iv_leF, iv_eqT, iv_eqF, iv_div, iv_mod, ↓bnI_s, ↓bnV_s, ↓bnJ_s, ↓bnR_s, rt_e, rt_0, rt_bz, sv_s, sv_o, ur_s, ur_e, ur_o, bz_T, bz_F, nat_eqF, Nat.reduceAdd, ↓gR_435_38 F, ↓sI_436 F, ↓sI_437 F, ↓sI_438 F, ↓sI_439 F, ↓sI_440 F, ↓sI_441 F, ↓sI_443 F, ↓sI_444 F, ↓sI_445 F, ↓sI_446 F, ↓sI_447 F, ↓sI_448 F, ↓sI_449 F, ↓sI_450 F, il_0, il_1, il_9, il_11, il_38, es, Int.natCast_add, Int.natCast_one])
theorem y_layWins (F : Fix z) {n : Nat} (hn : n < 7776) : ∃ V', (∀ a, a ≠ 450 → V' a = V a) ∧ WOk V' n ∧ cA m_M_layWins [.ref 435, .int (iv n)] (em V J z) = some (.null, em V' J z) := by
  have st : cA m_M_layWins [.ref 435, .int (iv n)] (em V J z) = rX m_M_layWins m_M_layWins 9 [.ref 435, .int (iv n), .int (iv 1)] [] (em (sv V 450 0 1) J z) := by
    simp (disch := first | decide | omega | (simp (disch := first | decide | omega) only [sv_s, sv_o, ur_s, ur_e, ur_o]; omega)) only [↓reduceIte, iv_add, iv_sub, iv_mul, iv_neg, iv_ltT, iv_ltF, iv_leT, iv_leF, iv_eqT, iv_eqF, iv_div, iv_mod, ↓bnI_s, ↓bnV_s, ↓bnJ_s, ↓bnR_s, rt_e, rt_0, rt_bz, sv_s, sv_o, ur_s, ur_e, ur_o, bz_T, bz_F, nat_eqF, Nat.reduceAdd, ↓q_M_layWins, ↓gR_435_38 F, ↓sI_436 F, ↓sI_437 F, ↓sI_438 F, ↓sI_439 F, ↓sI_440 F, ↓sI_441 F, ↓sI_443 F, ↓sI_444 F, ↓sI_445 F, ↓sI_446 F, ↓sI_447 F, ↓sI_448 F, ↓sI_449 F, ↓sI_450 F, ↓gd_435 F, il_0, il_1, il_9, il_11, il_27, il_38]
  by_cases h0 : n = 0
  · subst h0
    refine ⟨sv V 450 0 1, fun a ha => sv_o ha, fun j hj => absurd hj (Nat.not_lt_zero j), ?_⟩
    rw [st]
    (rw [q_M_layWins_9]; simp (disch := first | decide | omega | (simp (disch := first | decide | omega) only [sv_s, sv_o, ur_s, ur_e, ur_o]; omega)) only [↓reduceIte, iv_add, iv_sub, iv_mul, iv_neg, iv_ltT, iv_ltF, iv_leT, iv_leF, iv_eqT, iv_eqF, iv_div, iv_mod, ↓bnI_s, ↓bnV_s, ↓bnJ_s, ↓bnR_s, rt_e, rt_0, rt_bz, sv_s, sv_o, ur_s, ur_e, ur_o, bz_T, bz_F, nat_eqF, Nat.reduceAdd, ↓gR_435_38 F, ↓sI_436 F, ↓sI_437 F, ↓sI_438 F, ↓sI_439 F, ↓sI_440 F, ↓sI_441 F, ↓sI_443 F, ↓sI_444 F, ↓sI_445 F, ↓sI_446 F, ↓sI_447 F, ↓sI_448 F, ↓sI_449 F, ↓sI_450 F, il_0, il_1, il_9, il_11, il_38])
  · obtain ⟨V', f1, f2, f3⟩ := y_lay_l2 (J := J) F hn (n - 1) 1 (sv V 450 0 1) (by omega) (by omega) (fun j hj _ => by
      rw [show j = 0 by omega, sv_s, show ((0 : Nat) : Int) = 0 from rfl, ur_s, if_neg (by decide)])
    refine ⟨V', fun a ha => (f1 a ha).trans (sv_o ha), f2, ?_⟩
    rw [st]
    exact f3
theorem core_450 {V V' : Vm} (h : ∀ a, a ≠ 450 → V' a = V a) : core V' = core V := core_2 (fun a ha _ => h a ha) (fun k => scr_T (by omega)) (fun k => scr_T (a := 450) (by omega))
/-- a shape of tall rows of wide, by sixes -/
def s06 (t w : Nat) : Nat := 6 * (6 * (6 * (6 * (6 * 0 + (if 0 < t then w else 0)) + (if 1 < t then w else 0)) + (if 2 < t then w else 0)) + (if 3 < t then w else 0)) + (if 4 < t then w else 0)
def s10 (t w : Nat) : Nat := ((((0 * 10 + (if 0 < t then w else 0)) * 10 + (if 1 < t then w else 0)) * 10 + (if 2 < t then w else 0)) * 10 + (if 3 < t then w else 0)) * 10 + (if 4 < t then w else 0)
def chk06 : Bool := (List.range 6).all fun t => (List.range 6).all fun w => Nat.beq t 0 || Nat.beq w 0 || (Nat.blt (s06 t w) 7776 && !(Nat.beq (s06 t w) 0) && vd (s06 t w) && Nat.beq (T10n (s06 t w)) (s10 t w) && Nat.blt (s10 t w) 1000000)
theorem chk_06 : chk06 = true := by decide +kernel
theorem s06_ok (t : Nat) (ht : t < 6) (w : Nat) (hw : w < 6) (t0 : 0 < t) (w0 : 0 < w) : s06 t w < 7776 ∧ s06 t w ≠ 0 ∧ vd (s06 t w) = true ∧ T10n (s06 t w) = s10 t w ∧ s10 t w < 1000000 := by
  have q := List.all_eq_true.mp (List.all_eq_true.mp chk_06 t (mem_rg ht)) w (mem_rg hw)
  simp only [Bool.and_eq_true, Bool.or_eq_true, Bool.not_eq_true', Nat.blt_eq, Nat.beq_eq] at q
  rcases q with (q | q) | q
  · exact absurd q (by omega)
  · exact absurd q (by omega)
  · refine ⟨q.1.1.1.1, fun e => ?_, q.1.1.2, q.1.2, q.2⟩
    have := q.1.1.1.2
    rw [e] at this
    cases this
theorem y_X_game_s {t w x k : Nat} {h : Mem} (ht : t ≤ 5) (hw : w ≤ 5) (hk : k < 5) : rX m_X_game m_X_game 25 [dd, .int (iv t), .int (iv w), .int (iv x), .int (iv k)] [] h = rX m_X_game m_X_game 25 [dd, .int (iv t), .int (iv w), .int (iv ((x * 10 + (if k < t then w else 0) : Nat) : Int)), .int (iv ((k + 1 : Nat) : Int))] [] h := by
  by_cases q : k < t
  · rw [if_pos q]
    (rw [q_X_game_25]; simp (disch := first | decide | omega | (simp (disch := first | decide | omega) only [sv_s, sv_o, ur_s, ur_e, ur_o]; omega)) only [↓reduceIte, iv_add, iv_sub, iv_mul, iv_neg, iv_ltT, iv_ltF, iv_leT, iv_leF, iv_eqT, iv_eqF, iv_div, iv_mod, ↓bnI_s, ↓bnV_s, ↓bnJ_s, ↓bnR_s, rt_e, rt_0, rt_bz, sv_s, sv_o, ur_s, ur_e, ur_o, bz_T, bz_F, nat_eqF, Nat.reduceAdd, il_0, il_1, il_5, il_10, il_25, Int.natCast_add, Int.natCast_one, Int.natCast_mul, Int.cast_ofNat_Int])
  · rw [if_neg q]
    (rw [q_X_game_25]; simp (disch := first | decide | omega | (simp (disch := first | decide | omega) only [sv_s, sv_o, ur_s, ur_e, ur_o]; omega)) only [↓reduceIte, iv_add, iv_sub, iv_mul, iv_neg, iv_ltT, iv_ltF, iv_leT, iv_leF, iv_eqT, iv_eqF, iv_div, iv_mod, ↓bnI_s, ↓bnV_s, ↓bnJ_s, ↓bnR_s, rt_e, rt_0, rt_bz, sv_s, sv_o, ur_s, ur_e, ur_o, bz_T, bz_F, nat_eqF, Nat.reduceAdd, il_0, il_1, il_5, il_10, il_25, Int.natCast_add, Int.natCast_one, Int.natCast_mul, Int.cast_ofNat_Int])
theorem y_M_game_s {t w x k : Nat} {h : Mem} (ht : t ≤ 5) (hw : w ≤ 5) (hk : k < 5) : rX m_M_game m_M_game 25 [.ref 435, .int (iv t), .int (iv w), .int (iv x), .int (iv k)] [] h = rX m_M_game m_M_game 25 [.ref 435, .int (iv t), .int (iv w), .int (iv ((6 * x + (if k < t then w else 0) : Nat) : Int)), .int (iv ((k + 1 : Nat) : Int))] [] h := by
  by_cases q : k < t
  · rw [if_pos q]
    (rw [q_M_game_25]; simp (disch := first | decide | omega | (simp (disch := first | decide | omega) only [sv_s, sv_o, ur_s, ur_e, ur_o]; omega)) only [↓reduceIte, iv_add, iv_sub, iv_mul, iv_neg, iv_ltT, iv_ltF, iv_leT, iv_leF, iv_eqT, iv_eqF, iv_div, iv_mod, ↓bnI_s, ↓bnV_s, ↓bnJ_s, ↓bnR_s, rt_e, rt_0, rt_bz, sv_s, sv_o, ur_s, ur_e, ur_o, bz_T, bz_F, nat_eqF, Nat.reduceAdd, il_0, il_1, il_5, il_6, il_25, Int.natCast_add, Int.natCast_one, Int.natCast_mul, Int.cast_ofNat_Int])
  · rw [if_neg q]
    (rw [q_M_game_25]; simp (disch := first | decide | omega | (simp (disch := first | decide | omega) only [sv_s, sv_o, ur_s, ur_e, ur_o]; omega)) only [↓reduceIte, iv_add, iv_sub, iv_mul, iv_neg, iv_ltT, iv_ltF, iv_leT, iv_leF, iv_eqT, iv_eqF, iv_div, iv_mod, ↓bnI_s, ↓bnV_s, ↓bnJ_s, ↓bnR_s, rt_e, rt_0, rt_bz, sv_s, sv_o, ur_s, ur_e, ur_o, bz_T, bz_F, nat_eqF, Nat.reduceAdd, il_0, il_1, il_5, il_6, il_25, Int.natCast_add, Int.natCast_one, Int.natCast_mul, Int.cast_ofNat_Int])
theorem p_game (F : Fix z) (hL : Los V) {t w : Int} (ht : (-2147483648 ≤ t ∧ t < 2147483648)) (hw : (-2147483648 ≤ w ∧ w < 2147483648)) : Pq V J z (fun h => cA m_X_game [.ref 8, .int (iv t), .int (iv w)] h) (fun h => cA m_M_game [.ref 435, .int (iv t), .int (iv w)] h) := by
  by_cases h1 : 1 ≤ t ∧ t ≤ 5
  · by_cases h2 : 1 ≤ w ∧ w ≤ 5
    · obtain ⟨t, rfl⟩ := Int.eq_ofNat_of_zero_le (show 0 ≤ t by omega)
      obtain ⟨w, rfl⟩ := Int.eq_ofNat_of_zero_le (show 0 ≤ w by omega)
      obtain ⟨o1, o2, o3, o4, o5⟩ := s06_ok t (by omega) w (by omega) (by omega) (by omega)
      have st : ∀ k : Nat, k < 5 → ∀ x : Nat, ∀ h : Mem, rX m_X_game m_X_game 25 [dd, .int (iv t), .int (iv w), .int (iv x), .int (iv k)] [] h = rX m_X_game m_X_game 25 [dd, .int (iv t), .int (iv w), .int (iv ((x * 10 + (if k < t then w else 0) : Nat) : Int)), .int (iv ((k + 1 : Nat) : Int))] [] h := fun k hk x h => y_X_game_s (by omega) (by omega) hk
      have sm : ∀ k : Nat, k < 5 → ∀ x : Nat, ∀ h : Mem, rX m_M_game m_M_game 25 [.ref 435, .int (iv t), .int (iv w), .int (iv x), .int (iv k)] [] h = rX m_M_game m_M_game 25 [.ref 435, .int (iv t), .int (iv w), .int (iv ((6 * x + (if k < t then w else 0) : Nat) : Int)), .int (iv ((k + 1 : Nat) : Int))] [] h := fun k hk x h => y_M_game_s (by omega) (by omega) hk
      have eX : rX m_X_game m_X_game 25 [dd, .int (iv t), .int (iv w), .int (iv ((0 : Nat) : Int)), .int (iv ((0 : Nat) : Int))] [] (em V J z) = rX m_X_game m_X_game 25 [dd, .int (iv t), .int (iv w), .int (iv (s10 t w)), .int (iv ((5 : Nat) : Int))] [] (em V J z) :=
        (st 0 (by omega) 0 _).trans ((st 1 (by omega) _ _).trans ((st 2 (by omega) _ _).trans ((st 3 (by omega) _ _).trans (st 4 (by omega) _ _))))
      have eM : ∀ h, rX m_M_game m_M_game 25 [.ref 435, .int (iv t), .int (iv w), .int (iv ((0 : Nat) : Int)), .int (iv ((0 : Nat) : Int))] [] h = rX m_M_game m_M_game 25 [.ref 435, .int (iv t), .int (iv w), .int (iv (s06 t w)), .int (iv ((5 : Nat) : Int))] [] h := fun h =>
        (sm 0 (by omega) 0 _).trans ((sm 1 (by omega) _ _).trans ((sm 2 (by omega) _ _).trans ((sm 3 (by omega) _ _).trans (sm 4 (by omega) _ _))))
      have iX : cA m_X_game [.ref 8, .int (iv t), .int (iv w)] (em V J z) = rX m_X_game m_X_game 25 [dd, .int (iv t), .int (iv w), .int (iv ((0 : Nat) : Int)), .int (iv ((0 : Nat) : Int))] [] (em V J z) := by
        simp (disch := first | decide | omega | (simp (disch := first | decide | omega) only [sv_s, sv_o, ur_s, ur_e, ur_o]; omega)) only [↓reduceIte, iv_add, iv_sub, iv_mul, iv_neg, iv_ltT, iv_ltF, iv_leT, iv_leF, iv_eqT, iv_eqF, iv_div, iv_mod, ↓bnI_s, ↓bnV_s, ↓bnJ_s, ↓bnR_s, rt_e, rt_0, rt_bz, sv_s, sv_o, ur_s, ur_e, ur_o, bz_T, bz_F, nat_eqF, Nat.reduceAdd, ↓q_X_game, ↓gd_8 F, il_0, il_1, il_5, il_25, il_26, y_within]
        rfl
      have iM : cA m_M_game [.ref 435, .int (iv t), .int (iv w)] (em V J z) = rX m_M_game m_M_game 25 [.ref 435, .int (iv t), .int (iv w), .int (iv ((0 : Nat) : Int)), .int (iv ((0 : Nat) : Int))] [] (em V J z) := by
        simp (disch := first | decide | omega | (simp (disch := first | decide | omega) only [sv_s, sv_o, ur_s, ur_e, ur_o]; omega)) only [↓reduceIte, iv_add, iv_sub, iv_mul, iv_neg, iv_ltT, iv_ltF, iv_leT, iv_leF, iv_eqT, iv_eqF, iv_div, iv_mod, ↓bnI_s, ↓bnV_s, ↓bnJ_s, ↓bnR_s, rt_e, rt_0, rt_bz, sv_s, sv_o, ur_s, ur_e, ur_o, bz_T, bz_F, nat_eqF, Nat.reduceAdd, ↓q_M_game, ↓gd_435 F, il_0, il_1, il_5, il_25, il_27, y_isIn]
        rfl
      obtain ⟨V1, f1, f2, f3⟩ := y_layWins (V := V) (J := J) F o1
      have el := y_isLosing (J := J) F hL o5
      have eb := y_biteOf (J := J) F o1 o3 f2
      obtain ⟨l1, l2⟩ := enc_lose o1 o3 o2
      rw [o4] at l1
      generalize enc (findr (fun r c => lose (T10n (b06 (s06 t w) r c))) (w06 (s06 t w)) 5 0) = x at *
      by_cases q : lose (s10 t w) = true
      · rw [bz_T q] at el
        have hx := l1.mpr q
        refine ⟨0, V, J, V1, J, ?_, rfl, ?_, core_450 f1⟩
        · show cA _ _ _ = _
          rw [iX, eX]
          (rw [q_X_game_25]; simp (disch := first | decide | omega | (simp (disch := first | decide | omega) only [sv_s, sv_o, ur_s, ur_e, ur_o]; omega)) only [↓reduceIte, iv_add, iv_sub, iv_mul, iv_neg, iv_ltT, iv_ltF, iv_leT, iv_leF, iv_eqT, iv_eqF, iv_div, iv_mod, ↓bnI_s, ↓bnV_s, ↓bnJ_s, ↓bnR_s, rt_e, rt_0, rt_bz, sv_s, sv_o, ur_s, ur_e, ur_o, bz_T, bz_F, nat_eqF, Nat.reduceAdd, il_0, il_1, il_5, il_10, il_25, el])
        · show cA _ _ _ = _
          rw [iM, eM]
          (rw [q_M_game_25]; simp (disch := first | decide | omega | (simp (disch := first | decide | omega) only [sv_s, sv_o, ur_s, ur_e, ur_o]; omega)) only [↓reduceIte, iv_add, iv_sub, iv_mul, iv_neg, iv_ltT, iv_ltF, iv_leT, iv_leF, iv_eqT, iv_eqF, iv_div, iv_mod, ↓bnI_s, ↓bnV_s, ↓bnJ_s, ↓bnR_s, rt_e, rt_0, rt_bz, sv_s, sv_o, ur_s, ur_e, ur_o, bz_T, bz_F, nat_eqF, Nat.reduceAdd, il_0, il_1, il_5, il_6, il_25, f3, eb, hx])
      · rw [bz_F q] at el
        have hx : x ≠ -1 := fun e => q (l1.mp e)
        refine ⟨1, V, J, V1, J, ?_, rfl, ?_, core_450 f1⟩
        · show cA _ _ _ = _
          rw [iX, eX]
          (rw [q_X_game_25]; simp (disch := first | decide | omega | (simp (disch := first | decide | omega) only [sv_s, sv_o, ur_s, ur_e, ur_o]; omega)) only [↓reduceIte, iv_add, iv_sub, iv_mul, iv_neg, iv_ltT, iv_ltF, iv_leT, iv_leF, iv_eqT, iv_eqF, iv_div, iv_mod, ↓bnI_s, ↓bnV_s, ↓bnJ_s, ↓bnR_s, rt_e, rt_0, rt_bz, sv_s, sv_o, ur_s, ur_e, ur_o, bz_T, bz_F, nat_eqF, Nat.reduceAdd, il_0, il_1, il_5, il_10, il_25, el])
        · show cA _ _ _ = _
          rw [iM, eM]
          (rw [q_M_game_25]; simp (disch := first | decide | omega | (simp (disch := first | decide | omega) only [sv_s, sv_o, ur_s, ur_e, ur_o]; omega)) only [↓reduceIte, iv_add, iv_sub, iv_mul, iv_neg, iv_ltT, iv_ltF, iv_leT, iv_leF, iv_eqT, iv_eqF, iv_div, iv_mod, ↓bnI_s, ↓bnV_s, ↓bnJ_s, ↓bnR_s, rt_e, rt_0, rt_bz, sv_s, sv_o, ur_s, ur_e, ur_o, bz_T, bz_F, nat_eqF, Nat.reduceAdd, il_0, il_1, il_5, il_6, il_25, f3, eb])
    · exact ⟨-1, V, J, V, J, (by simp (disch := first | decide | omega | (simp (disch := first | decide | omega) only [sv_s, sv_o, ur_s, ur_e, ur_o]; omega)) only [↓reduceIte, iv_add, iv_sub, iv_mul, iv_neg, iv_ltT, iv_ltF, iv_leT, iv_leF, iv_eqT, iv_eqF, iv_div, iv_mod, ↓bnI_s, ↓bnV_s, ↓bnJ_s, ↓bnR_s, rt_e, rt_0, rt_bz, sv_s, sv_o, ur_s, ur_e, ur_o, bz_T, bz_F, nat_eqF, Nat.reduceAdd, ↓q_X_game, ↓gd_8 F, il_0, il_1, il_5, il_25, il_26, y_within]), rfl, (by simp (disch := first | decide | omega | (simp (disch := first | decide | omega) only [sv_s, sv_o, ur_s, ur_e, ur_o]; omega)) only [↓reduceIte, iv_add, iv_sub, iv_mul, iv_neg, iv_ltT, iv_ltF, iv_leT, iv_leF, iv_eqT, iv_eqF, iv_div, iv_mod, ↓bnI_s, ↓bnV_s, ↓bnJ_s, ↓bnR_s, rt_e, rt_0, rt_bz, sv_s, sv_o, ur_s, ur_e, ur_o, bz_T, bz_F, nat_eqF, Nat.reduceAdd, ↓q_M_game, ↓gd_435 F, il_0, il_1, il_5, il_25, il_27, y_isIn]), rfl⟩
  · exact ⟨-1, V, J, V, J, (by simp (disch := first | decide | omega | (simp (disch := first | decide | omega) only [sv_s, sv_o, ur_s, ur_e, ur_o]; omega)) only [↓reduceIte, iv_add, iv_sub, iv_mul, iv_neg, iv_ltT, iv_ltF, iv_leT, iv_leF, iv_eqT, iv_eqF, iv_div, iv_mod, ↓bnI_s, ↓bnV_s, ↓bnJ_s, ↓bnR_s, rt_e, rt_0, rt_bz, sv_s, sv_o, ur_s, ur_e, ur_o, bz_T, bz_F, nat_eqF, Nat.reduceAdd, ↓q_X_game, ↓gd_8 F, il_0, il_1, il_5, il_25, il_26, y_within]), rfl, (by simp (disch := first | decide | omega | (simp (disch := first | decide | omega) only [sv_s, sv_o, ur_s, ur_e, ur_o]; omega)) only [↓reduceIte, iv_add, iv_sub, iv_mul, iv_neg, iv_ltT, iv_ltF, iv_leT, iv_leF, iv_eqT, iv_eqF, iv_div, iv_mod, ↓bnI_s, ↓bnV_s, ↓bnJ_s, ↓bnR_s, rt_e, rt_0, rt_bz, sv_s, sv_o, ur_s, ur_e, ur_o, bz_T, bz_F, nat_eqF, Nat.reduceAdd, ↓q_M_game, ↓gd_435 F, il_0, il_1, il_5, il_25, il_27, y_isIn]), rfl⟩
/-! A BITE: a shape told by tens -/
/-- its digits fall -/
def fallN (s : Nat) : Prop := w10 s 1 ≤ w10 s 0 ∧ w10 s 2 ≤ w10 s 1 ∧ w10 s 3 ≤ w10 s 2 ∧ w10 s 4 ≤ w10 s 3
/-- the shape by sixes -/
def t06 (s : Nat) : Nat := 6 * (6 * (6 * (6 * (6 * 0 + w10 s 0) + w10 s 1) + w10 s 2) + w10 s 3) + w10 s 4
theorem t06_ok {s : Nat} (hs : s ≤ 55555) (h : fallN s) : t06 s < 7776 ∧ vd (t06 s) = true ∧ T10n (t06 s) = s ∧ (∀ r, r < 5 → w06 (t06 s) r = w10 s r) := by
  have l0 : w10 s 0 ≤ 5 := by show s / 10000 % 10 ≤ 5; omega
  obtain ⟨h1, h2, h3, h4⟩ := h
  have es : s = (((w10 s 0 * 10 + w10 s 1) * 10 + w10 s 2) * 10 + w10 s 3) * 10 + w10 s 4 := by
    show s = (((s / 10000 % 10 * 10 + s / 1000 % 10) * 10 + s / 100 % 10) * 10 + s / 10 % 10) * 10 + s / 1 % 10
    omega
  have e0 : w06 (t06 s) 0 = w10 s 0 := by show t06 s / 1296 % 6 = w10 s 0; rw [show t06 s / 1296 = w10 s 0 by unfold t06; omega]; omega
  have e1 : w06 (t06 s) 1 = w10 s 1 := by show t06 s / 216 % 6 = w10 s 1; rw [show t06 s / 216 = 6 * w10 s 0 + w10 s 1 by unfold t06; omega]; omega
  have e2 : w06 (t06 s) 2 = w10 s 2 := by show t06 s / 36 % 6 = w10 s 2; rw [show t06 s / 36 = 36 * w10 s 0 + 6 * w10 s 1 + w10 s 2 by unfold t06; omega]; omega
  have e3 : w06 (t06 s) 3 = w10 s 3 := by show t06 s / 6 % 6 = w10 s 3; rw [show t06 s / 6 = 216 * w10 s 0 + 36 * w10 s 1 + 6 * w10 s 2 + w10 s 3 by unfold t06; omega]; omega
  have e4 : w06 (t06 s) 4 = w10 s 4 := by show t06 s / 1 % 6 = w10 s 4; unfold t06; omega
  refine ⟨by unfold t06; omega, ?_, ?_, fun r hr => ?_⟩
  · unfold vd
    rw [e0, e1, e2, e3, e4]
    simp only [Bool.and_eq_true, Nat.ble_eq]
    omega
  · unfold T10n
    rw [e0, e1, e2, e3, e4]
    exact es.symm
  · rcases (show r = 0 ∨ r = 1 ∨ r = 2 ∨ r = 3 ∨ r = 4 by omega) with rfl | rfl | rfl | rfl | rfl
    · exact e0
    · exact e1
    · exact e2
    · exact e3
    · exact e4
theorem y_X_isShape_l {s : Nat} {h : Mem} (hs : s ≤ 55555) : ∃ b : Int, (b = 0 ∨ b = 1) ∧ (b = 1 ↔ fallN s) ∧ cA m_X_isShape [.int (iv s)] h = some (.int (iv b), h) := by
  have e0 : cA m_X_widthOf [.int (iv s), .int (iv 0)] h = some (.int (iv (w10 s 0)), h) := y_widthOf (h := h) (s := s) (r := 0) (by omega) (by omega)
  have e1 : cA m_X_widthOf [.int (iv s), .int (iv 1)] h = some (.int (iv (w10 s 1)), h) := y_widthOf (h := h) (s := s) (r := 1) (by omega) (by omega)
  have e2 : cA m_X_widthOf [.int (iv s), .int (iv 2)] h = some (.int (iv (w10 s 2)), h) := y_widthOf (h := h) (s := s) (r := 2) (by omega) (by omega)
  have e3 : cA m_X_widthOf [.int (iv s), .int (iv 3)] h = some (.int (iv (w10 s 3)), h) := y_widthOf (h := h) (s := s) (r := 3) (by omega) (by omega)
  have e4 : cA m_X_widthOf [.int (iv s), .int (iv 4)] h = some (.int (iv (w10 s 4)), h) := y_widthOf (h := h) (s := s) (r := 4) (by omega) (by omega)
  have l0 := w10_lt s 0
  have l1 := w10_lt s 1
  have l2 := w10_lt s 2
  have l3 := w10_lt s 3
  have l4 := w10_lt s 4
  unfold fallN
  generalize w10 s 0 = x0 at *
  generalize w10 s 1 = x1 at *
  generalize w10 s 2 = x2 at *
  generalize w10 s 3 = x3 at *
  generalize w10 s 4 = x4 at *
  by_cases q1 : x1 ≤ x0
  · by_cases q2 : x2 ≤ x1
    · by_cases q3 : x3 ≤ x2
      · by_cases q4 : x4 ≤ x3
        · exact ⟨1, by omega, by omega, by simp (disch := first | decide | omega | (simp (disch := first | decide | omega) only [sv_s, sv_o, ur_s, ur_e, ur_o]; omega)) only [↓reduceIte, iv_add, iv_sub, iv_mul, iv_neg, iv_ltT, iv_ltF, iv_leT, iv_leF, iv_eqT, iv_eqF, iv_div, iv_mod, ↓bnI_s, ↓bnV_s, ↓bnJ_s, ↓bnR_s, rt_e, rt_0, rt_bz, sv_s, sv_o, ur_s, ur_e, ur_o, bz_T, bz_F, nat_eqF, Nat.reduceAdd, ↓q_X_isShape, ↓q_X_isShape_11, il_0, il_1, il_5, il_11, il_55555, y_within, e0, e1, e2, e3, e4, Int.reduceAdd, Int.reduceSub]⟩
        · exact ⟨0, by omega, by omega, by simp (disch := first | decide | omega | (simp (disch := first | decide | omega) only [sv_s, sv_o, ur_s, ur_e, ur_o]; omega)) only [↓reduceIte, iv_add, iv_sub, iv_mul, iv_neg, iv_ltT, iv_ltF, iv_leT, iv_leF, iv_eqT, iv_eqF, iv_div, iv_mod, ↓bnI_s, ↓bnV_s, ↓bnJ_s, ↓bnR_s, rt_e, rt_0, rt_bz, sv_s, sv_o, ur_s, ur_e, ur_o, bz_T, bz_F, nat_eqF, Nat.reduceAdd, ↓q_X_isShape, ↓q_X_isShape_11, il_0, il_1, il_5, il_11, il_55555, y_within, e0, e1, e2, e3, e4, Int.reduceAdd, Int.reduceSub]⟩
      · exact ⟨0, by omega, by omega, by simp (disch := first | decide | omega | (simp (disch := first | decide | omega) only [sv_s, sv_o, ur_s, ur_e, ur_o]; omega)) only [↓reduceIte, iv_add, iv_sub, iv_mul, iv_neg, iv_ltT, iv_ltF, iv_leT, iv_leF, iv_eqT, iv_eqF, iv_div, iv_mod, ↓bnI_s, ↓bnV_s, ↓bnJ_s, ↓bnR_s, rt_e, rt_0, rt_bz, sv_s, sv_o, ur_s, ur_e, ur_o, bz_T, bz_F, nat_eqF, Nat.reduceAdd, ↓q_X_isShape, ↓q_X_isShape_11, il_0, il_1, il_5, il_11, il_55555, y_within, e0, e1, e2, e3, Int.reduceAdd, Int.reduceSub]⟩
    · exact ⟨0, by omega, by omega, by simp (disch := first | decide | omega | (simp (disch := first | decide | omega) only [sv_s, sv_o, ur_s, ur_e, ur_o]; omega)) only [↓reduceIte, iv_add, iv_sub, iv_mul, iv_neg, iv_ltT, iv_ltF, iv_leT, iv_leF, iv_eqT, iv_eqF, iv_div, iv_mod, ↓bnI_s, ↓bnV_s, ↓bnJ_s, ↓bnR_s, rt_e, rt_0, rt_bz, sv_s, sv_o, ur_s, ur_e, ur_o, bz_T, bz_F, nat_eqF, Nat.reduceAdd, ↓q_X_isShape, ↓q_X_isShape_11, il_0, il_1, il_5, il_11, il_55555, y_within, e0, e1, e2, Int.reduceAdd, Int.reduceSub]⟩
  · exact ⟨0, by omega, by omega, by simp (disch := first | decide | omega | (simp (disch := first | decide | omega) only [sv_s, sv_o, ur_s, ur_e, ur_o]; omega)) only [↓reduceIte, iv_add, iv_sub, iv_mul, iv_neg, iv_ltT, iv_ltF, iv_leT, iv_leF, iv_eqT, iv_eqF, iv_div, iv_mod, ↓bnI_s, ↓bnV_s, ↓bnJ_s, ↓bnR_s, rt_e, rt_0, rt_bz, sv_s, sv_o, ur_s, ur_e, ur_o, bz_T, bz_F, nat_eqF, Nat.reduceAdd, ↓q_X_isShape, ↓q_X_isShape_11, il_0, il_1, il_5, il_11, il_55555, y_within, e0, e1, Int.reduceAdd, Int.reduceSub]⟩
theorem y_X_isShape_no {s : Int} {h : Mem} (hs : (-2147483648 ≤ s ∧ s < 2147483648)) (hn : ¬ (0 ≤ s ∧ s ≤ 55555)) : cA m_X_isShape [.int (iv s)] h = some (.int (iv 0), h) := by
  simp (disch := first | decide | omega | (simp (disch := first | decide | omega) only [sv_s, sv_o, ur_s, ur_e, ur_o]; omega)) only [↓reduceIte, iv_add, iv_sub, iv_mul, iv_neg, iv_ltT, iv_ltF, iv_leT, iv_leF, iv_eqT, iv_eqF, iv_div, iv_mod, ↓bnI_s, ↓bnV_s, ↓bnJ_s, ↓bnR_s, rt_e, rt_0, rt_bz, sv_s, sv_o, ur_s, ur_e, ur_o, bz_T, bz_F, nat_eqF, Nat.reduceAdd, ↓q_X_isShape, ↓q_X_isShape_11, il_0, il_1, il_5, il_11, il_55555, y_within, Int.reduceAdd, Int.reduceSub]
/-- the model's reading of the digits -/
theorem y_M_bite_s {s x k p : Nat} {up : Int} {h : Mem} (hs : s ≤ 55555) (hk : k < 5) (hp : p = e10 k) : rX m_M_bite m_M_bite 23 [.ref 435, .int (iv s), .int (iv up), .int (iv x), .int (iv p), .int (iv k)] [] h = if 5 < w10 s k then some (.int (iv (-1)), h) else rX m_M_bite m_M_bite 23 [.ref 435, .int (iv s), .int (iv up), .int (iv ((6 * x + w10 s k : Nat) : Int)), .int (iv ((p / 10 : Nat) : Int)), .int (iv ((k + 1 : Nat) : Int))] [] h := by
  have hp2 : 0 < p ∧ p ≤ 10000 := by
    rw [hp]
    rcases (show k = 0 ∨ k = 1 ∨ k = 2 ∨ k = 3 ∨ k = 4 by omega) with rfl | rfl | rfl | rfl | rfl <;> decide
  have ew : (s : Int) / (p : Int) % 10 = (w10 s k : Int) := by unfold w10; rw [← hp]; omega
  have sp : 0 ≤ (s : Int) / (p : Int) ∧ (s : Int) / (p : Int) ≤ 55555 := ⟨Int.ediv_nonneg (by omega) (by omega), Int.le_trans (Int.ediv_le_self _ (by omega)) (by omega)⟩
  have wl := w10_lt s k
  by_cases q : 5 < w10 s k
  · rw [if_pos q]
    (rw [q_M_bite_23]; simp (disch := first | decide | omega | (simp (disch := first | decide | omega) only [sv_s, sv_o, ur_s, ur_e, ur_o]; omega)) only [↓reduceIte, iv_add, iv_sub, iv_mul, iv_neg, iv_ltT, iv_ltF, iv_leT, iv_leF, iv_eqT, iv_eqF, iv_div, iv_mod, ↓bnI_s, ↓bnV_s, ↓bnJ_s, ↓bnR_s, rt_e, rt_0, rt_bz, sv_s, sv_o, ur_s, ur_e, ur_o, bz_T, bz_F, nat_eqF, Nat.reduceAdd, il_0, il_1, il_5, il_6, il_10, il_23, ew])
  · rw [if_neg q]
    (rw [q_M_bite_23]; simp (disch := first | decide | omega | (simp (disch := first | decide | omega) only [sv_s, sv_o, ur_s, ur_e, ur_o]; omega)) only [↓reduceIte, iv_add, iv_sub, iv_mul, iv_neg, iv_ltT, iv_ltF, iv_leT, iv_leF, iv_eqT, iv_eqF, iv_div, iv_mod, ↓bnI_s, ↓bnV_s, ↓bnJ_s, ↓bnR_s, rt_e, rt_0, rt_bz, sv_s, sv_o, ur_s, ur_e, ur_o, bz_T, bz_F, nat_eqF, Nat.reduceAdd, il_0, il_1, il_5, il_6, il_10, il_23, ew, Int.natCast_add, Int.natCast_one, Int.natCast_mul, Int.cast_ofNat_Int, Int.natCast_ediv])
theorem p_bite (F : Fix z) (hL : Los V) {s up : Int} (hs : (-2147483648 ≤ s ∧ s < 2147483648)) (hu : up = 0 ∨ up = 1) : Pq V J z (fun h => cA m_X_bite [.ref 8, .int (iv s), .int (iv up)] h) (fun h => cA m_M_bite [.ref 435, .int (iv s), .int (iv up)] h) := by
  by_cases h1 : 0 ≤ s ∧ s ≤ 55555
  · obtain ⟨s, rfl⟩ := Int.eq_ofNat_of_zero_le h1.1
    have hs5 : s ≤ 55555 := by omega
    obtain ⟨b, b1, b2, b3⟩ := y_X_isShape_l (s := s) (h := em V J z) hs5
    -- what the model does with the digits
    have iM : cA m_M_bite [.ref 435, .int (iv s), .int (iv up)] (em V J z) = rX m_M_bite m_M_bite 23 [.ref 435, .int (iv s), .int (iv up), .int (iv ((0 : Nat) : Int)), .int (iv ((10000 : Nat) : Int)), .int (iv ((0 : Nat) : Int))] [] (em V J z) := by
      simp (disch := first | decide | omega | (simp (disch := first | decide | omega) only [sv_s, sv_o, ur_s, ur_e, ur_o]; omega)) only [↓reduceIte, iv_add, iv_sub, iv_mul, iv_neg, iv_ltT, iv_ltF, iv_leT, iv_leF, iv_eqT, iv_eqF, iv_div, iv_mod, ↓bnI_s, ↓bnV_s, ↓bnJ_s, ↓bnR_s, rt_e, rt_0, rt_bz, sv_s, sv_o, ur_s, ur_e, ur_o, bz_T, bz_F, nat_eqF, Nat.reduceAdd, ↓q_M_bite, ↓gd_435 F, il_0, il_1, il_23, il_27, il_10000, il_55555, y_isIn]
      rfl
    have d0 := y_M_bite_s (s := s) (x := 0) (k := 0) (p := 10000) (up := up) (h := em V J z) hs5 (by omega) rfl
    have d1 := y_M_bite_s (s := s) (x := 6 * 0 + w10 s 0) (k := 1) (p := 1000) (up := up) (h := em V J z) hs5 (by omega) rfl
    have d2 := y_M_bite_s (s := s) (x := 6 * (6 * 0 + w10 s 0) + w10 s 1) (k := 2) (p := 100) (up := up) (h := em V J z) hs5 (by omega) rfl
    have d3 := y_M_bite_s (s := s) (x := 6 * (6 * (6 * 0 + w10 s 0) + w10 s 1) + w10 s 2) (k := 3) (p := 10) (up := up) (h := em V J z) hs5 (by omega) rfl
    have d4 := y_M_bite_s (s := s) (x := 6 * (6 * (6 * (6 * 0 + w10 s 0) + w10 s 1) + w10 s 2) + w10 s 3) (k := 4) (p := 1) (up := up) (h := em V J z) hs5 (by omega) rfl
    have l0 : w10 s 0 ≤ 5 := by show s / 10000 % 10 ≤ 5; omega
    rw [if_neg (by omega)] at d0
    by_cases hf : fallN s
    · obtain ⟨t1, t2, t3, t4⟩ := t06_ok hs5 hf
      have hf2 := hf
      obtain ⟨f1, f2, f3, f4⟩ := hf2
      rw [if_neg (by omega)] at d1 d2 d3 d4
      have dM : cA m_M_bite [.ref 435, .int (iv s), .int (iv up)] (em V J z) = rX m_M_bite m_M_bite 23 [.ref 435, .int (iv s), .int (iv up), .int (iv (t06 s)), .int (iv ((1 / 10 : Nat) : Int)), .int (iv ((4 + 1 : Nat) : Int))] [] (em V J z) :=
        iM.trans (d0.trans (d1.trans (d2.trans (d3.trans d4))))
      obtain ⟨V1, g1, g2, g3⟩ := y_layWins (V := V) (J := J) F t1
      have es := y_M_isShape (v := t06 s) (h := em V J z) t1
      rw [bz_T t2] at es
      have eb := y_biteOf (J := J) F t1 t2 g2
      have same : findr (fun r c => lose (b10 s r c)) (w10 s) 5 0 = findr (fun r c => lose (T10n (b06 (t06 s) r c))) (w06 (t06 s)) 5 0 := by
        refine findr_c 5 0 (fun k h1 h2 => ⟨(t4 k (by omega)).symm, fun c hc => ?_⟩)
        have g := (G_at t1 t2).2.1 k (by omega) c (by rw [t4 k (by omega)]; exact hc)
        rw [t3] at g
        show lose (b10 s k c) = _
        rw [g.2.2]
      have eX : cA m_X_bite [.ref 8, .int (iv s), .int (iv up)] (em V J z) = some (.int (iv (if up = 0 then (findr (fun r c => lose (b10 s r c)) (w10 s) 5 0).2 else (findr (fun r c => lose (b10 s r c)) (w10 s) 5 0).1)), em V J z) := by
        rw [← y_bite_o F hL hs5 hu 5 0 (by omega)]
        rw [b2.mpr hf] at b3
        simp (disch := first | decide | omega | (simp (disch := first | decide | omega) only [sv_s, sv_o, ur_s, ur_e, ur_o]; omega)) only [↓reduceIte, iv_add, iv_sub, iv_mul, iv_neg, iv_ltT, iv_ltF, iv_leT, iv_leF, iv_eqT, iv_eqF, iv_div, iv_mod, ↓bnI_s, ↓bnV_s, ↓bnJ_s, ↓bnR_s, rt_e, rt_0, rt_bz, sv_s, sv_o, ur_s, ur_e, ur_o, bz_T, bz_F, nat_eqF, Nat.reduceAdd, ↓q_X_bite, ↓gd_8 F, il_0, il_1, il_11, il_26, b3]
        rfl
      rw [same] at eX
      have sp := findr_spec (fun r c => lose (T10n (b06 (t06 s) r c))) (w06 (t06 s)) 5 0
      refine ⟨_, V, J, V1, J, eX, rfl, ?_, core_450 g1⟩
      show cA _ _ _ = _
      rw [dM]
      rcases sp with ⟨a, _⟩ | ⟨k, c, x1, x2, x3, x4, x5⟩
      · rw [a] at eb ⊢
        have eb : cA m_M_biteOf [.ref 435, .int (iv (t06 s))] (em V1 J z) = some (.int (iv (-1)), em V1 J z) := eb
        rw [show (if up = 0 then ((-1 : Int), (-1 : Int)).2 else ((-1 : Int), (-1 : Int)).1) = -1 by split <;> rfl]
        (rw [q_M_bite_23]; simp (disch := first | decide | omega | (simp (disch := first | decide | omega) only [sv_s, sv_o, ur_s, ur_e, ur_o]; omega)) only [↓reduceIte, iv_add, iv_sub, iv_mul, iv_neg, iv_ltT, iv_ltF, iv_leT, iv_leF, iv_eqT, iv_eqF, iv_div, iv_mod, ↓bnI_s, ↓bnV_s, ↓bnJ_s, ↓bnR_s, rt_e, rt_0, rt_bz, sv_s, sv_o, ur_s, ur_e, ur_o, bz_T, bz_F, nat_eqF, Nat.reduceAdd, il_0, il_1, il_5, il_6, il_10, il_23, es, g3, eb])
      · have wl := w06_lt (t06 s) k
        rw [x5] at eb ⊢
        have eb : cA m_M_biteOf [.ref 435, .int (iv (t06 s))] (em V1 J z) = some (.int (iv (5 * (k : Int) + c)), em V1 J z) := by
          rw [eb]
          refine si ?_
          unfold enc
          rw [if_neg (by show ¬ (k : Int) = -1; omega)]
        rcases hu with rfl | rfl
        · rw [if_pos rfl]
          (rw [q_M_bite_23]; simp (disch := first | decide | omega | (simp (disch := first | decide | omega) only [sv_s, sv_o, ur_s, ur_e, ur_o]; omega)) only [↓reduceIte, iv_add, iv_sub, iv_mul, iv_neg, iv_ltT, iv_ltF, iv_leT, iv_leF, iv_eqT, iv_eqF, iv_div, iv_mod, ↓bnI_s, ↓bnV_s, ↓bnJ_s, ↓bnR_s, rt_e, rt_0, rt_bz, sv_s, sv_o, ur_s, ur_e, ur_o, bz_T, bz_F, nat_eqF, Nat.reduceAdd, il_0, il_1, il_5, il_6, il_10, il_23, es, g3, eb])
          exact si (by show _ = (c : Int); omega)
        · rw [if_neg (by decide)]
          (rw [q_M_bite_23]; simp (disch := first | decide | omega | (simp (disch := first | decide | omega) only [sv_s, sv_o, ur_s, ur_e, ur_o]; omega)) only [↓reduceIte, iv_add, iv_sub, iv_mul, iv_neg, iv_ltT, iv_ltF, iv_leT, iv_leF, iv_eqT, iv_eqF, iv_div, iv_mod, ↓bnI_s, ↓bnV_s, ↓bnJ_s, ↓bnR_s, rt_e, rt_0, rt_bz, sv_s, sv_o, ur_s, ur_e, ur_o, bz_T, bz_F, nat_eqF, Nat.reduceAdd, il_0, il_1, il_5, il_6, il_10, il_23, es, g3, eb])
          exact si (by show _ = (k : Int); omega)
    · have b0 : b = 0 := by
        rcases b1 with e | e
        · exact e
        · exact absurd (b2.mp e) hf
      rw [b0] at b3
      refine ⟨-1, V, J, V, J, (by simp (disch := first | decide | omega | (simp (disch := first | decide | omega) only [sv_s, sv_o, ur_s, ur_e, ur_o]; omega)) only [↓reduceIte, iv_add, iv_sub, iv_mul, iv_neg, iv_ltT, iv_ltF, iv_leT, iv_leF, iv_eqT, iv_eqF, iv_div, iv_mod, ↓bnI_s, ↓bnV_s, ↓bnJ_s, ↓bnR_s, rt_e, rt_0, rt_bz, sv_s, sv_o, ur_s, ur_e, ur_o, bz_T, bz_F, nat_eqF, Nat.reduceAdd, ↓q_X_bite, ↓gd_8 F, il_0, il_1, il_11, il_26, b3]), rfl, ?_, rfl⟩
      show cA _ _ _ = _
      rw [iM, d0, d1]
      by_cases q1 : 5 < w10 s 1
      · rw [if_pos q1]
      · rw [if_neg q1, d2]
        by_cases q2 : 5 < w10 s 2
        · rw [if_pos q2]
        · rw [if_neg q2, d3]
          by_cases q3 : 5 < w10 s 3
          · rw [if_pos q3]
          · rw [if_neg q3, d4]
            by_cases q4 : 5 < w10 s 4
            · rw [if_pos q4]
            · rw [if_neg q4]
              have tl : t06 s < 7776 := by unfold t06; omega
              have e0 : w06 (t06 s) 0 = w10 s 0 := by show t06 s / 1296 % 6 = w10 s 0; rw [show t06 s / 1296 = w10 s 0 by unfold t06; omega]; omega
              have e1 : w06 (t06 s) 1 = w10 s 1 := by show t06 s / 216 % 6 = w10 s 1; rw [show t06 s / 216 = 6 * w10 s 0 + w10 s 1 by unfold t06; omega]; omega
              have e2 : w06 (t06 s) 2 = w10 s 2 := by show t06 s / 36 % 6 = w10 s 2; rw [show t06 s / 36 = 36 * w10 s 0 + 6 * w10 s 1 + w10 s 2 by unfold t06; omega]; omega
              have e3 : w06 (t06 s) 3 = w10 s 3 := by show t06 s / 6 % 6 = w10 s 3; rw [show t06 s / 6 = 216 * w10 s 0 + 36 * w10 s 1 + 6 * w10 s 2 + w10 s 3 by unfold t06; omega]; omega
              have e4 : w06 (t06 s) 4 = w10 s 4 := by show t06 s / 1 % 6 = w10 s 4; unfold t06; omega
              have nv : ¬ vd (t06 s) = true := by
                intro h
                unfold vd at h
                rw [e0, e1, e2, e3, e4] at h
                simp only [Bool.and_eq_true, Nat.ble_eq] at h
                exact hf ⟨h.1.1.1, h.1.1.2, h.1.2, h.2⟩
              have es := y_M_isShape (v := t06 s) (h := em V J z) tl
              rw [bz_F nv] at es
              show rX m_M_bite m_M_bite 23 [.ref 435, .int (iv s), .int (iv up), .int (iv (t06 s)), .int (iv ((1 / 10 : Nat) : Int)), .int (iv ((4 + 1 : Nat) : Int))] [] (em V J z) = _
              (rw [q_M_bite_23]; simp (disch := first | decide | omega | (simp (disch := first | decide | omega) only [sv_s, sv_o, ur_s, ur_e, ur_o]; omega)) only [↓reduceIte, iv_add, iv_sub, iv_mul, iv_neg, iv_ltT, iv_ltF, iv_leT, iv_leF, iv_eqT, iv_eqF, iv_div, iv_mod, ↓bnI_s, ↓bnV_s, ↓bnJ_s, ↓bnR_s, rt_e, rt_0, rt_bz, sv_s, sv_o, ur_s, ur_e, ur_o, bz_T, bz_F, nat_eqF, Nat.reduceAdd, il_0, il_1, il_5, il_6, il_10, il_23, es])
  · exact ⟨-1, V, J, V, J, (by simp (disch := first | decide | omega | (simp (disch := first | decide | omega) only [sv_s, sv_o, ur_s, ur_e, ur_o]; omega)) only [↓reduceIte, iv_add, iv_sub, iv_mul, iv_neg, iv_ltT, iv_ltF, iv_leT, iv_leF, iv_eqT, iv_eqF, iv_div, iv_mod, ↓bnI_s, ↓bnV_s, ↓bnJ_s, ↓bnR_s, rt_e, rt_0, rt_bz, sv_s, sv_o, ur_s, ur_e, ur_o, bz_T, bz_F, nat_eqF, Nat.reduceAdd, ↓q_X_bite, ↓gd_8 F, il_0, il_1, il_11, il_26, y_X_isShape_no hs h1]), rfl, (by simp (disch := first | decide | omega | (simp (disch := first | decide | omega) only [sv_s, sv_o, ur_s, ur_e, ur_o]; omega)) only [↓reduceIte, iv_add, iv_sub, iv_mul, iv_neg, iv_ltT, iv_ltF, iv_leT, iv_leF, iv_eqT, iv_eqF, iv_div, iv_mod, ↓bnI_s, ↓bnV_s, ↓bnJ_s, ↓bnR_s, rt_e, rt_0, rt_bz, sv_s, sv_o, ur_s, ur_e, ur_o, bz_T, bz_F, nat_eqF, Nat.reduceAdd, ↓q_M_bite, ↓gd_435 F, il_0, il_1, il_23, il_27, il_10000, il_55555, y_isIn]), rfl⟩
end
