/-! SEATINGS weighed, in the class -/
/-- the row i of n as a function -/
def rw (n i : Nat) (s : Int) : Int := (g0 (rwL n i) s.toNat : Nat)
/-- what it has of SPITE -/
def vv (S : Int → Int) (n i : Nat) : Int := spv S (rw n i) n
/-- behind so many rows: least, most, how many as good, the best one -/
def wst (S : Int → Int) (n : Nat) : Nat → Int × Int × Int × Nat
  | 0 => (0, 0, 0, 0)
  | i + 1 => if (wst S n i).2.2.1 = 0 ∨ vv S n i < (wst S n i).1 then (vv S n i, max (wst S n i).2.1 (vv S n i), 1, i) else ((wst S n i).1, max (wst S n i).2.1 (vv S n i), (wst S n i).2.2.1 + (if vv S n i = (wst S n i).1 then 1 else 0), (wst S n i).2.2.2)
theorem rw_wo {n i : Nat} (hn : n ≤ 6) (hi : i < fct (n - 1)) : WO (rw n i) n := fun k k0 k1 => by
  have := ((R_at hn).2 i hi).2.1 k.toNat (by omega)
  unfold rw; omega
theorem vv_rg {S : Int → Int} (hS : SpO S) {n i : Nat} (hn : n ≤ 6) (hi : i < fct (n - 1)) : 0 ≤ vv S n i ∧ vv S n i ≤ 594 := spv_rg hS (rw_wo hn hi) (by omega)
theorem wst_rg {S : Int → Int} (hS : SpO S) {n : Nat} (hn : n ≤ 6) : ∀ i, i ≤ fct (n - 1) → (0 ≤ (wst S n i).1 ∧ (wst S n i).1 ≤ 594) ∧ (0 ≤ (wst S n i).2.1 ∧ (wst S n i).2.1 ≤ 594) ∧ (0 ≤ (wst S n i).2.2.1 ∧ (wst S n i).2.2.1 ≤ i) ∧ (0 < i → 0 < (wst S n i).2.2.1 ∧ (wst S n i).2.2.2 < i) := by
  intro i
  induction i with
  | zero => intro _; exact ⟨⟨Int.le_refl _, by show (0 : Int) ≤ 594; omega⟩, ⟨Int.le_refl _, by show (0 : Int) ≤ 594; omega⟩, ⟨Int.le_refl _, Int.le_refl _⟩, fun h => absurd h (by omega)⟩
  | succ i ih =>
    intro hi
    obtain ⟨a1, a2, a3, a4⟩ := ih (by omega)
    have v := vv_rg hS hn (i := i) (by omega)
    have un : wst S n (i + 1) = if (wst S n i).2.2.1 = 0 ∨ vv S n i < (wst S n i).1 then (vv S n i, max (wst S n i).2.1 (vv S n i), 1, i) else ((wst S n i).1, max (wst S n i).2.1 (vv S n i), (wst S n i).2.2.1 + (if vv S n i = (wst S n i).1 then 1 else 0), (wst S n i).2.2.2) := rfl
    rw [un]
    by_cases q : (wst S n i).2.2.1 = 0 ∨ vv S n i < (wst S n i).1
    · rw [if_pos q]
      refine ⟨v, ⟨?_, ?_⟩, ⟨by show (0 : Int) ≤ 1; omega, by show (1 : Int) ≤ ((i + 1 : Nat) : Int); omega⟩, fun _ => ⟨by show (0 : Int) < 1; omega, by show i < i + 1; omega⟩⟩
      · show 0 ≤ max (wst S n i).2.1 (vv S n i); omega
      · show max (wst S n i).2.1 (vv S n i) ≤ 594; omega
    · rw [if_neg q]
      have i0 : 0 < i := by
        by_cases e : i = 0
        · subst e; exact absurd (Or.inl rfl) q
        · omega
      have b := a4 i0
      refine ⟨a1, ⟨?_, ?_⟩, ⟨?_, ?_⟩, fun _ => ⟨?_, ?_⟩⟩
      · show 0 ≤ max (wst S n i).2.1 (vv S n i); omega
      · show max (wst S n i).2.1 (vv S n i) ≤ 594; omega
      · show 0 ≤ (wst S n i).2.2.1 + (if vv S n i = (wst S n i).1 then 1 else 0); split <;> omega
      · show (wst S n i).2.2.1 + (if vv S n i = (wst S n i).1 then 1 else 0) ≤ ((i + 1 : Nat) : Int); split <;> omega
      · show 0 < (wst S n i).2.2.1 + (if vv S n i = (wst S n i).1 then 1 else 0); split <;> omega
      · show (wst S n i).2.2.2 < i + 1; omega
section
variable {V J : Vm} {z : Zz}
theorem y_weigh_c (F : Fix z) {x : Int} : ∀ (m k : Nat) (V : Vm), k + m = 6 → (∀ j : Int, 0 ≤ j → j < k → V 429 j = V 428 j) → ∃ V', (∀ c, c ≠ 429 → V' c = V c) ∧ (∀ j : Int, 0 ≤ j → j < 6 → V' 429 j = V 428 j) ∧ rX m_Rounds_weigh m_Rounds_weigh 39 [.ref 427, .int (iv x), .int (iv k)] [] (em V J z) = rX m_Rounds_weigh m_Rounds_weigh 68 [.ref 427, .int (iv x), dd] [] (em V' J z) := by
  intro m
  induction m with
  | zero =>
    intro k V hk h
    refine ⟨V, fun _ _ => rfl, fun j j0 j1 => h j j0 (by omega), ?_⟩
    (rw [q_Rounds_weigh_39]; simp (disch := first | decide | omega | (simp (disch := first | decide | omega) only [sv_s, sv_o, ur_s, ur_e, ur_o]; omega)) only [↓reduceIte, iv_add, iv_sub, iv_mul, iv_neg, iv_ltT, iv_ltF, iv_leT, iv_leF, iv_eqT, iv_eqF, iv_div, iv_mod, ↓bnI_s, ↓bnV_s, ↓bnJ_s, ↓bnR_s, rt_e, rt_0, rt_bz, sv_s, sv_o, ur_s, ur_e, ur_o, bz_T, bz_F, nat_eqF, Nat.reduceAdd, ↓gR_427_1 F, ↓gR_427_0 F, ↓sI_18 F, ↓sI_19 F, ↓sI_20 F, ↓sI_22 F, ↓sI_23 F, ↓sI_25 F, ↓sI_26 F, ↓sI_28 F, ↓sI_29 F, ↓sI_418 F, ↓sI_420 F, ↓sI_421 F, ↓sI_422 F, ↓sI_423 F, ↓sI_425 F, ↓sI_426 F, ↓sI_428 F, ↓sI_429 F, ↓sI_432 F, ↓sI_433 F, ↓sI_434 F, ↓nI_18 F, ↓nI_19 F, ↓nI_20 F, ↓nI_22 F, ↓nI_23 F, ↓nI_25 F, ↓nI_26 F, ↓nI_28 F, ↓nI_29 F, ↓nI_418 F, ↓nI_420 F, ↓nI_421 F, ↓nI_422 F, ↓nI_423 F, ↓nI_425 F, ↓nI_426 F, ↓nI_428 F, ↓nI_429 F, ↓nI_432 F, ↓nI_433 F, ↓nI_434 F, il_0, il_1, il_5, il_39, il_68])
  | succ m ih =>
    intro k V hk h
    obtain ⟨V', f1, f2, f3⟩ := ih (k + 1) (sv V 429 k (V 428 k)) (by omega) (fun j j0 j1 => by
      rw [sv_s, sv_o (by decide)]
      by_cases q : j = k
      · rw [q, ur_s]
      · rw [ur_o q]; exact h j j0 (by omega))
    refine ⟨V', fun c hc => (f1 c hc).trans (sv_o hc), fun j j0 j1 => by rw [f2 j j0 j1, sv_o (by decide)], ?_⟩
    rw [← f3]
    (rw [q_Rounds_weigh_39]; simp (disch := first | decide | omega | (simp (disch := first | decide | omega) only [sv_s, sv_o, ur_s, ur_e, ur_o]; omega)) only [↓reduceIte, iv_add, iv_sub, iv_mul, iv_neg, iv_ltT, iv_ltF, iv_leT, iv_leF, iv_eqT, iv_eqF, iv_div, iv_mod, ↓bnI_s, ↓bnV_s, ↓bnJ_s, ↓bnR_s, rt_e, rt_0, rt_bz, sv_s, sv_o, ur_s, ur_e, ur_o, bz_T, bz_F, nat_eqF, Nat.reduceAdd, ↓gR_427_1 F, ↓gR_427_0 F, ↓sI_18 F, ↓sI_19 F, ↓sI_20 F, ↓sI_22 F, ↓sI_23 F, ↓sI_25 F, ↓sI_26 F, ↓sI_28 F, ↓sI_29 F, ↓sI_418 F, ↓sI_420 F, ↓sI_421 F, ↓sI_422 F, ↓sI_423 F, ↓sI_425 F, ↓sI_426 F, ↓sI_428 F, ↓sI_429 F, ↓sI_432 F, ↓sI_433 F, ↓sI_434 F, ↓nI_18 F, ↓nI_19 F, ↓nI_20 F, ↓nI_22 F, ↓nI_23 F, ↓nI_25 F, ↓nI_26 F, ↓nI_28 F, ↓nI_29 F, ↓nI_418 F, ↓nI_420 F, ↓nI_421 F, ↓nI_422 F, ↓nI_423 F, ↓nI_425 F, ↓nI_426 F, ↓nI_428 F, ↓nI_429 F, ↓nI_432 F, ↓nI_433 F, ↓nI_434 F, il_0, il_1, il_5, il_39, il_68, y_get (s_428 F) (by decide), rd_in, Int.natCast_add, Int.natCast_one])
/-- the class's fields stand for so many rows weighed -/
def WS (V : Vm) (S : Int → Int) (n i : Nat) : Prop := (0 < i → V 427 2 = (wst S n i).1 ∧ ∀ k : Nat, k < 6 → V 429 k = (g0 (rwL n (wst S n i).2.2.2) k : Nat)) ∧ V 427 3 = (wst S n i).2.1 ∧ V 427 4 = (wst S n i).2.2.1
theorem y_weigh (F : Fix z) {S : Int → Int} (hS : SpO S) {n i : Nat} (hn : n ≤ 6) (hi : i < fct (n - 1)) (hW : WS V S n i) (hR : R6 V (rwL n i)) : ∃ V', (∀ c, c ≠ 427 → c ≠ 429 → V' c = V c) ∧ WS V' S n (i + 1) ∧ cA m_Rounds_weigh [.ref 427, .int (iv (vv S n i))] (em V J z) = some (.null, em V' J z) := by
  obtain ⟨a1, a2, a3, a4⟩ := wst_rg hS hn i (by omega)
  have v := vv_rg hS hn hi
  obtain ⟨w1, w2, w3⟩ := hW
  have fl := fct_le hn
  have un : wst S n (i + 1) = if (wst S n i).2.2.1 = 0 ∨ vv S n i < (wst S n i).1 then (vv S n i, max (wst S n i).2.1 (vv S n i), 1, i) else ((wst S n i).1, max (wst S n i).2.1 (vv S n i), (wst S n i).2.2.1 + (if vv S n i = (wst S n i).1 then 1 else 0), (wst S n i).2.2.2) := rfl
  generalize vv S n i = x at *
  -- where it takes this row
  have take : (wst S n i).2.2.1 = 0 ∨ x < (wst S n i).1 → (cA m_Rounds_weigh [.ref 427, .int (iv x)] (em V J z) = rX m_Rounds_weigh m_Rounds_weigh 39 [.ref 427, .int (iv x), .int (iv ((0 : Nat) : Int))] [] (em (sv (sv (sv V 427 3 (max (V 427 3) x)) 427 2 x) 427 4 0) J z)) → ∃ V', (∀ c, c ≠ 427 → c ≠ 429 → V' c = V c) ∧ WS V' S n (i + 1) ∧ cA m_Rounds_weigh [.ref 427, .int (iv x)] (em V J z) = some (.null, em V' J z) := by
    intro q st
    obtain ⟨V1, f1, f2, f3⟩ := y_weigh_c (J := J) F (x := x) 6 0 (sv (sv (sv V 427 3 (max (V 427 3) x)) 427 2 x) 427 4 0) (by omega) (fun j j0 j1 => absurd j1 (by omega))
    have p2 : V1 427 2 = x := by rw [f1 427 (by decide)]; simp (disch := first | decide | omega | (simp (disch := first | decide | omega) only [sv_s, sv_o, ur_s, ur_e, ur_o]; omega)) only [↓reduceIte, iv_add, iv_sub, iv_mul, iv_neg, iv_ltT, iv_ltF, iv_leT, iv_leF, iv_eqT, iv_eqF, iv_div, iv_mod, ↓bnI_s, ↓bnV_s, ↓bnJ_s, ↓bnR_s, rt_e, rt_0, rt_bz, sv_s, sv_o, ur_s, ur_e, ur_o, bz_T, bz_F, nat_eqF, Nat.reduceAdd]
    have p3 : V1 427 3 = max (V 427 3) x := by rw [f1 427 (by decide)]; simp (disch := first | decide | omega | (simp (disch := first | decide | omega) only [sv_s, sv_o, ur_s, ur_e, ur_o]; omega)) only [↓reduceIte, iv_add, iv_sub, iv_mul, iv_neg, iv_ltT, iv_ltF, iv_leT, iv_leF, iv_eqT, iv_eqF, iv_div, iv_mod, ↓bnI_s, ↓bnV_s, ↓bnJ_s, ↓bnR_s, rt_e, rt_0, rt_bz, sv_s, sv_o, ur_s, ur_e, ur_o, bz_T, bz_F, nat_eqF, Nat.reduceAdd]
    have p4 : V1 427 4 = 0 := by rw [f1 427 (by decide)]; simp (disch := first | decide | omega | (simp (disch := first | decide | omega) only [sv_s, sv_o, ur_s, ur_e, ur_o]; omega)) only [↓reduceIte, iv_add, iv_sub, iv_mul, iv_neg, iv_ltT, iv_ltF, iv_leT, iv_leF, iv_eqT, iv_eqF, iv_div, iv_mod, ↓bnI_s, ↓bnV_s, ↓bnJ_s, ↓bnR_s, rt_e, rt_0, rt_bz, sv_s, sv_o, ur_s, ur_e, ur_o, bz_T, bz_F, nat_eqF, Nat.reduceAdd]
    rw [if_pos q] at un
    refine ⟨sv V1 427 4 (0 + 1), fun c c1 c2 => by rw [sv_o c1, f1 c c2, sv_o c1, sv_o c1, sv_o c1], ⟨fun _ => ⟨?_, fun k hk => ?_⟩, ?_, ?_⟩, ?_⟩
    · rw [un]; simp (disch := first | decide | omega | (simp (disch := first | decide | omega) only [sv_s, sv_o, ur_s, ur_e, ur_o]; omega)) only [↓reduceIte, iv_add, iv_sub, iv_mul, iv_neg, iv_ltT, iv_ltF, iv_leT, iv_leF, iv_eqT, iv_eqF, iv_div, iv_mod, ↓bnI_s, ↓bnV_s, ↓bnJ_s, ↓bnR_s, rt_e, rt_0, rt_bz, sv_s, sv_o, ur_s, ur_e, ur_o, bz_T, bz_F, nat_eqF, Nat.reduceAdd, p2]
    · rw [un]
      rw [sv_o (by decide), f2 k (by omega) (by omega), sv_o (by decide), sv_o (by decide), sv_o (by decide)]
      exact hR.2.2 k hk
    · rw [un]; simp (disch := first | decide | omega | (simp (disch := first | decide | omega) only [sv_s, sv_o, ur_s, ur_e, ur_o]; omega)) only [↓reduceIte, iv_add, iv_sub, iv_mul, iv_neg, iv_ltT, iv_ltF, iv_leT, iv_leF, iv_eqT, iv_eqF, iv_div, iv_mod, ↓bnI_s, ↓bnV_s, ↓bnJ_s, ↓bnR_s, rt_e, rt_0, rt_bz, sv_s, sv_o, ur_s, ur_e, ur_o, bz_T, bz_F, nat_eqF, Nat.reduceAdd, p3, w2]
    · rw [un]; simp (disch := first | decide | omega | (simp (disch := first | decide | omega) only [sv_s, sv_o, ur_s, ur_e, ur_o]; omega)) only [↓reduceIte, iv_add, iv_sub, iv_mul, iv_neg, iv_ltT, iv_ltF, iv_leT, iv_leF, iv_eqT, iv_eqF, iv_div, iv_mod, ↓bnI_s, ↓bnV_s, ↓bnJ_s, ↓bnR_s, rt_e, rt_0, rt_bz, sv_s, sv_o, ur_s, ur_e, ur_o, bz_T, bz_F, nat_eqF, Nat.reduceAdd]
      rfl
    · rw [st, f3]
      (rw [q_Rounds_weigh_68]; simp (disch := first | decide | omega | (simp (disch := first | decide | omega) only [sv_s, sv_o, ur_s, ur_e, ur_o]; omega)) only [↓reduceIte, iv_add, iv_sub, iv_mul, iv_neg, iv_ltT, iv_ltF, iv_leT, iv_leF, iv_eqT, iv_eqF, iv_div, iv_mod, ↓bnI_s, ↓bnV_s, ↓bnJ_s, ↓bnR_s, rt_e, rt_0, rt_bz, sv_s, sv_o, ur_s, ur_e, ur_o, bz_T, bz_F, nat_eqF, Nat.reduceAdd, ↓gI_427_4 F, ↓gI_427_2 F, ↓pI_427_4 F, il_0, il_1, il_2, il_4, il_5, il_68, p2, p4])
  have r2 : 0 < i → -1 ≤ V 427 2 ∧ V 427 2 ≤ 594 := fun h => by rw [(w1 h).1]; omega
  by_cases q1 : (wst S n i).2.2.1 = 0
  · refine take (Or.inl q1) ?_
    simp (disch := first | decide | omega | (simp (disch := first | decide | omega) only [sv_s, sv_o, ur_s, ur_e, ur_o]; omega)) only [↓reduceIte, iv_add, iv_sub, iv_mul, iv_neg, iv_ltT, iv_ltF, iv_leT, iv_leF, iv_eqT, iv_eqF, iv_div, iv_mod, ↓bnI_s, ↓bnV_s, ↓bnJ_s, ↓bnR_s, rt_e, rt_0, rt_bz, sv_s, sv_o, ur_s, ur_e, ur_o, bz_T, bz_F, nat_eqF, Nat.reduceAdd, ↓q_Rounds_weigh, ↓gI_427_3 F, ↓gI_427_4 F, ↓gI_427_2 F, ↓pI_427_3 F, ↓pI_427_2 F, ↓pI_427_4 F, ↓gd_427 F, il_0, il_1, il_2, il_3, il_4, il_5, il_21, il_39, il_68, y_max]
    rfl
  · have i0 : 0 < i := by
      by_cases e : i = 0
      · subst e; exact absurd rfl q1
      · omega
    obtain ⟨w4, w5⟩ := w1 i0
    by_cases q2 : x < (wst S n i).1
    · refine take (Or.inr q2) ?_
      simp (disch := first | decide | omega | (simp (disch := first | decide | omega) only [sv_s, sv_o, ur_s, ur_e, ur_o]; omega)) only [↓reduceIte, iv_add, iv_sub, iv_mul, iv_neg, iv_ltT, iv_ltF, iv_leT, iv_leF, iv_eqT, iv_eqF, iv_div, iv_mod, ↓bnI_s, ↓bnV_s, ↓bnJ_s, ↓bnR_s, rt_e, rt_0, rt_bz, sv_s, sv_o, ur_s, ur_e, ur_o, bz_T, bz_F, nat_eqF, Nat.reduceAdd, ↓q_Rounds_weigh, ↓gI_427_3 F, ↓gI_427_4 F, ↓gI_427_2 F, ↓pI_427_3 F, ↓pI_427_2 F, ↓pI_427_4 F, ↓gd_427 F, il_0, il_1, il_2, il_3, il_4, il_5, il_21, il_39, il_68, y_max]
      rfl
    · rw [if_neg (fun e => by rcases e with e | e; exact q1 e; exact q2 e)] at un
      have st : cA m_Rounds_weigh [.ref 427, .int (iv x)] (em V J z) = rX m_Rounds_weigh m_Rounds_weigh 68 [.ref 427, .int (iv x), dd] [] (em (sv V 427 3 (max (V 427 3) x)) J z) := by
        simp (disch := first | decide | omega | (simp (disch := first | decide | omega) only [sv_s, sv_o, ur_s, ur_e, ur_o]; omega)) only [↓reduceIte, iv_add, iv_sub, iv_mul, iv_neg, iv_ltT, iv_ltF, iv_leT, iv_leF, iv_eqT, iv_eqF, iv_div, iv_mod, ↓bnI_s, ↓bnV_s, ↓bnJ_s, ↓bnR_s, rt_e, rt_0, rt_bz, sv_s, sv_o, ur_s, ur_e, ur_o, bz_T, bz_F, nat_eqF, Nat.reduceAdd, ↓q_Rounds_weigh, ↓gI_427_3 F, ↓gI_427_4 F, ↓gI_427_2 F, ↓pI_427_3 F, ↓pI_427_2 F, ↓pI_427_4 F, ↓gd_427 F, il_0, il_1, il_2, il_3, il_4, il_5, il_21, il_39, il_68, y_max]
      by_cases q3 : x = (wst S n i).1
      · rw [if_pos q3] at un
        refine ⟨sv (sv V 427 3 (max (V 427 3) x)) 427 4 (V 427 4 + 1), fun c c1 c2 => by rw [sv_o c1, sv_o c1], ⟨fun _ => ⟨?_, fun k hk => ?_⟩, ?_, ?_⟩, ?_⟩
        · rw [un]; simp (disch := first | decide | omega | (simp (disch := first | decide | omega) only [sv_s, sv_o, ur_s, ur_e, ur_o]; omega)) only [↓reduceIte, iv_add, iv_sub, iv_mul, iv_neg, iv_ltT, iv_ltF, iv_leT, iv_leF, iv_eqT, iv_eqF, iv_div, iv_mod, ↓bnI_s, ↓bnV_s, ↓bnJ_s, ↓bnR_s, rt_e, rt_0, rt_bz, sv_s, sv_o, ur_s, ur_e, ur_o, bz_T, bz_F, nat_eqF, Nat.reduceAdd]; exact w4
        · rw [un, sv_o (by decide), sv_o (by decide)]; exact w5 k hk
        · rw [un]; simp (disch := first | decide | omega | (simp (disch := first | decide | omega) only [sv_s, sv_o, ur_s, ur_e, ur_o]; omega)) only [↓reduceIte, iv_add, iv_sub, iv_mul, iv_neg, iv_ltT, iv_ltF, iv_leT, iv_leF, iv_eqT, iv_eqF, iv_div, iv_mod, ↓bnI_s, ↓bnV_s, ↓bnJ_s, ↓bnR_s, rt_e, rt_0, rt_bz, sv_s, sv_o, ur_s, ur_e, ur_o, bz_T, bz_F, nat_eqF, Nat.reduceAdd, w2]
        · rw [un]; simp (disch := first | decide | omega | (simp (disch := first | decide | omega) only [sv_s, sv_o, ur_s, ur_e, ur_o]; omega)) only [↓reduceIte, iv_add, iv_sub, iv_mul, iv_neg, iv_ltT, iv_ltF, iv_leT, iv_leF, iv_eqT, iv_eqF, iv_div, iv_mod, ↓bnI_s, ↓bnV_s, ↓bnJ_s, ↓bnR_s, rt_e, rt_0, rt_bz, sv_s, sv_o, ur_s, ur_e, ur_o, bz_T, bz_F, nat_eqF, Nat.reduceAdd, w3]
        · rw [st]
          (rw [q_Rounds_weigh_68]; simp (disch := first | decide | omega | (simp (disch := first | decide | omega) only [sv_s, sv_o, ur_s, ur_e, ur_o]; omega)) only [↓reduceIte, iv_add, iv_sub, iv_mul, iv_neg, iv_ltT, iv_ltF, iv_leT, iv_leF, iv_eqT, iv_eqF, iv_div, iv_mod, ↓bnI_s, ↓bnV_s, ↓bnJ_s, ↓bnR_s, rt_e, rt_0, rt_bz, sv_s, sv_o, ur_s, ur_e, ur_o, bz_T, bz_F, nat_eqF, Nat.reduceAdd, ↓gI_427_4 F, ↓gI_427_2 F, ↓pI_427_4 F, il_0, il_1, il_2, il_4, il_5, il_68])
      · rw [if_neg q3] at un
        refine ⟨sv (sv V 427 3 (max (V 427 3) x)) 427 4 (V 427 4 + 0), fun c c1 c2 => by rw [sv_o c1, sv_o c1], ⟨fun _ => ⟨?_, fun k hk => ?_⟩, ?_, ?_⟩, ?_⟩
        · rw [un]; simp (disch := first | decide | omega | (simp (disch := first | decide | omega) only [sv_s, sv_o, ur_s, ur_e, ur_o]; omega)) only [↓reduceIte, iv_add, iv_sub, iv_mul, iv_neg, iv_ltT, iv_ltF, iv_leT, iv_leF, iv_eqT, iv_eqF, iv_div, iv_mod, ↓bnI_s, ↓bnV_s, ↓bnJ_s, ↓bnR_s, rt_e, rt_0, rt_bz, sv_s, sv_o, ur_s, ur_e, ur_o, bz_T, bz_F, nat_eqF, Nat.reduceAdd]; exact w4
        · rw [un, sv_o (by decide), sv_o (by decide)]; exact w5 k hk
        · rw [un]; simp (disch := first | decide | omega | (simp (disch := first | decide | omega) only [sv_s, sv_o, ur_s, ur_e, ur_o]; omega)) only [↓reduceIte, iv_add, iv_sub, iv_mul, iv_neg, iv_ltT, iv_ltF, iv_leT, iv_leF, iv_eqT, iv_eqF, iv_div, iv_mod, ↓bnI_s, ↓bnV_s, ↓bnJ_s, ↓bnR_s, rt_e, rt_0, rt_bz, sv_s, sv_o, ur_s, ur_e, ur_o, bz_T, bz_F, nat_eqF, Nat.reduceAdd, w2]
        · rw [un]; simp (disch := first | decide | omega | (simp (disch := first | decide | omega) only [sv_s, sv_o, ur_s, ur_e, ur_o]; omega)) only [↓reduceIte, iv_add, iv_sub, iv_mul, iv_neg, iv_ltT, iv_ltF, iv_leT, iv_leF, iv_eqT, iv_eqF, iv_div, iv_mod, ↓bnI_s, ↓bnV_s, ↓bnJ_s, ↓bnR_s, rt_e, rt_0, rt_bz, sv_s, sv_o, ur_s, ur_e, ur_o, bz_T, bz_F, nat_eqF, Nat.reduceAdd, w3]
        · rw [st]
          (rw [q_Rounds_weigh_68]; simp (disch := first | decide | omega | (simp (disch := first | decide | omega) only [sv_s, sv_o, ur_s, ur_e, ur_o]; omega)) only [↓reduceIte, iv_add, iv_sub, iv_mul, iv_neg, iv_ltT, iv_ltF, iv_leT, iv_leF, iv_eqT, iv_eqF, iv_div, iv_mod, ↓bnI_s, ↓bnV_s, ↓bnJ_s, ↓bnR_s, rt_e, rt_0, rt_bz, sv_s, sv_o, ur_s, ur_e, ur_o, bz_T, bz_F, nat_eqF, Nat.reduceAdd, ↓gI_427_4 F, ↓gI_427_2 F, ↓pI_427_4 F, il_0, il_1, il_2, il_4, il_5, il_68])
theorem R6.of {V V' : Vm} {L : List Nat} (h : R6 V L) (e : V' 428 = V 428) : R6 V' L := ⟨h.1, h.2.1, fun k hk => by rw [e]; exact h.2.2 k hk⟩
theorem WS.of {V V' : Vm} {S : Int → Int} {n i : Nat} (h : WS V S n i) (e : V' 427 = V 427) (e2 : V' 429 = V 429) : WS V' S n i := by unfold WS at *; rw [e, e2]; exact h
theorem y_weighAll_l (F : Fix z) {S : Int → Int} (hS : SpO S) {n : Nat} (hn : n ≤ 6) : ∀ (m i : Nat) (V : Vm), i + m + 1 = fct (n - 1) → V 18 = S → R6 V (rwL n i) → WS V S n i → ∃ V', (∀ c, c ≠ 427 → c ≠ 428 → c ≠ 429 → V' c = V c) ∧ WS V' S n (fct (n - 1)) ∧ rX m_Rounds_weighAll m_Rounds_weighAll 47 [.ref 427, .ref 9, .int (iv n), .int (iv 1), .int (iv i)] [] (em V J z) = some (.null, em V' J z) := by
  have fl := fct_le hn
  intro m
  induction m with
  | zero =>
    intro i V hi h18 hR hW
    have eS := y_spiteOf (V := V) (J := J) F (a := 428) (s_428 F) (n := n) (by omega) (by rw [h18]; exact hS) (fun k k0 k1 => by
      have := hR.2.2 k.toNat (by omega)
      have r := hR.2.1 k.toNat (by omega)
      rw [show ((k.toNat : Nat) : Int) = k by omega] at this
      omega)
    have ev : spv (V 18) (V 428) n = vv S n i := by
      rw [h18]
      exact spv_c fun k k0 k1 => by
        have := hR.2.2 k.toNat (by omega)
        rw [show ((k.toNat : Nat) : Int) = k by omega] at this
        exact this
    rw [ev] at eS
    obtain ⟨V1, f1, f2, f3⟩ := y_weigh (J := J) F hS hn (i := i) (by omega) hW hR
    obtain ⟨V2, g1, g2⟩ := y_next (J := J) F (hR.of (f1 428 (by decide) (by decide))) hn
    have nn := ((R_at hn).2 i (by omega)).2.2.2.2 (by omega)
    rcases g2 with ⟨k1, rfl, k3⟩ | ⟨M, k1, k2, k3⟩
    · refine ⟨V2, fun c c1 c2 c3 => f1 c c1 c3, by rw [show fct (n - 1) = i + 1 by omega]; exact f2, ?_⟩
      rw [q_Rounds_weighAll_47]
      by_cases q : i + 1 < 1000
      · have e2 : rX m_Rounds_weighAll m_Rounds_weighAll 47 [.ref 427, .ref 9, .int (iv n), .int (iv 0), .int (iv ((i : Int) + 1))] [] (em V2 J z) = some (.null, em V2 J z) := by
          (rw [q_Rounds_weighAll_47]; simp (disch := first | decide | omega | (simp (disch := first | decide | omega) only [sv_s, sv_o, ur_s, ur_e, ur_o]; omega)) only [↓reduceIte, iv_add, iv_sub, iv_mul, iv_neg, iv_ltT, iv_ltF, iv_leT, iv_leF, iv_eqT, iv_eqF, iv_div, iv_mod, ↓bnI_s, ↓bnV_s, ↓bnJ_s, ↓bnR_s, rt_e, rt_0, rt_bz, sv_s, sv_o, ur_s, ur_e, ur_o, bz_T, bz_F, nat_eqF, Nat.reduceAdd, ↓gR_427_0 F, ↓gR_9_3 F, il_0, il_1, il_2, il_3, il_5, il_47, il_1000])
        simp (disch := first | decide | omega | (simp (disch := first | decide | omega) only [sv_s, sv_o, ur_s, ur_e, ur_o]; omega)) only [↓reduceIte, iv_add, iv_sub, iv_mul, iv_neg, iv_ltT, iv_ltF, iv_leT, iv_leF, iv_eqT, iv_eqF, iv_div, iv_mod, ↓bnI_s, ↓bnV_s, ↓bnJ_s, ↓bnR_s, rt_e, rt_0, rt_bz, sv_s, sv_o, ur_s, ur_e, ur_o, bz_T, bz_F, nat_eqF, Nat.reduceAdd, ↓gR_427_0 F, ↓gR_9_3 F, il_0, il_1, il_2, il_3, il_5, il_47, il_1000, eS, f3, k3, e2]
      · exact absurd q (by omega)
    · rw [nn] at k1; cases k1
  | succ m ih =>
    intro i V hi h18 hR hW
    have eS := y_spiteOf (V := V) (J := J) F (a := 428) (s_428 F) (n := n) (by omega) (by rw [h18]; exact hS) (fun k k0 k1 => by
      have := hR.2.2 k.toNat (by omega)
      have r := hR.2.1 k.toNat (by omega)
      rw [show ((k.toNat : Nat) : Int) = k by omega] at this
      omega)
    have ev : spv (V 18) (V 428) n = vv S n i := by
      rw [h18]
      exact spv_c fun k k0 k1 => by
        have := hR.2.2 k.toNat (by omega)
        rw [show ((k.toNat : Nat) : Int) = k by omega] at this
        exact this
    rw [ev] at eS
    obtain ⟨V1, f1, f2, f3⟩ := y_weigh (J := J) F hS hn (i := i) (by omega) hW hR
    obtain ⟨V2, g1, g2⟩ := y_next (J := J) F (hR.of (f1 428 (by decide) (by decide))) hn
    have nn := ((R_at hn).2 i (by omega)).2.2.2.1 (by omega)
    rcases g2 with ⟨k1, k2, k3⟩ | ⟨M, k1, k2, k3⟩
    · rw [nn] at k1; cases k1
    · rw [nn] at k1
      have e : rwL n (i + 1) = M := Option.some.inj k1
      subst e
      obtain ⟨V', b1, b2, b3⟩ := ih (i + 1) V2 (by omega) (by rw [g1 18 (by decide), f1 18 (by decide) (by decide)]; exact h18) k2 (f2.of (g1 427 (by decide)) (g1 429 (by decide)))
      refine ⟨V', fun c c1 c2 c3 => by rw [b1 c c1 c2 c3, g1 c c2, f1 c c1 c3], b2, ?_⟩
      rw [← b3]
      (rw [q_Rounds_weighAll_47]; simp (disch := first | decide | omega | (simp (disch := first | decide | omega) only [sv_s, sv_o, ur_s, ur_e, ur_o]; omega)) only [↓reduceIte, iv_add, iv_sub, iv_mul, iv_neg, iv_ltT, iv_ltF, iv_leT, iv_leF, iv_eqT, iv_eqF, iv_div, iv_mod, ↓bnI_s, ↓bnV_s, ↓bnJ_s, ↓bnR_s, rt_e, rt_0, rt_bz, sv_s, sv_o, ur_s, ur_e, ur_o, bz_T, bz_F, nat_eqF, Nat.reduceAdd, ↓gR_427_0 F, ↓gR_9_3 F, il_0, il_1, il_2, il_3, il_5, il_47, il_1000, eS, f3, k3, Int.natCast_add, Int.natCast_one])
theorem y_wrow (F : Fix z) {x : Int32} : ∀ (m k : Nat) (V : Vm), k + m = 6 → (∀ j : Int, 0 ≤ j → j < k → V 428 j = j) → ∃ V', (∀ c, c ≠ 428 → V' c = V c) ∧ (∀ j : Int, 0 ≤ j → j < 6 → V' 428 j = j) ∧ rX m_Rounds_weighAll m_Rounds_weighAll 10 [.ref 427, .ref 9, .int x, .int (iv k), dd] [] (em V J z) = rX m_Rounds_weighAll m_Rounds_weighAll 10 [.ref 427, .ref 9, .int x, .int (iv 6), dd] [] (em V' J z) := by
  intro m
  induction m with
  | zero =>
    intro k V hk h
    refine ⟨V, fun _ _ => rfl, fun j j0 j1 => h j j0 (by omega), ?_⟩
    rw [show (k : Int) = 6 by omega]
  | succ m ih =>
    intro k V hk h
    obtain ⟨V', f1, f2, f3⟩ := ih (k + 1) (sv V 428 k k) (by omega) (fun j j0 j1 => by
      rw [sv_s]
      by_cases q : j = k
      · rw [q, ur_s]
      · rw [ur_o q]; exact h j j0 (by omega))
    refine ⟨V', fun c hc => (f1 c hc).trans (sv_o hc), f2, ?_⟩
    rw [← f3]
    (rw [q_Rounds_weighAll_10]; simp (disch := first | decide | omega | (simp (disch := first | decide | omega) only [sv_s, sv_o, ur_s, ur_e, ur_o]; omega)) only [↓reduceIte, iv_add, iv_sub, iv_mul, iv_neg, iv_ltT, iv_ltF, iv_leT, iv_leF, iv_eqT, iv_eqF, iv_div, iv_mod, ↓bnI_s, ↓bnV_s, ↓bnJ_s, ↓bnR_s, rt_e, rt_0, rt_bz, sv_s, sv_o, ur_s, ur_e, ur_o, bz_T, bz_F, nat_eqF, Nat.reduceAdd, ↓gR_427_0 F, ↓pI_427_4 F, ↓pI_427_3 F, ↓sI_18 F, ↓sI_19 F, ↓sI_20 F, ↓sI_22 F, ↓sI_23 F, ↓sI_25 F, ↓sI_26 F, ↓sI_28 F, ↓sI_29 F, ↓sI_418 F, ↓sI_420 F, ↓sI_421 F, ↓sI_422 F, ↓sI_423 F, ↓sI_425 F, ↓sI_426 F, ↓sI_428 F, ↓sI_429 F, ↓sI_432 F, ↓sI_433 F, ↓sI_434 F, ↓nI_18 F, ↓nI_19 F, ↓nI_20 F, ↓nI_22 F, ↓nI_23 F, ↓nI_25 F, ↓nI_26 F, ↓nI_28 F, ↓nI_29 F, ↓nI_418 F, ↓nI_420 F, ↓nI_421 F, ↓nI_422 F, ↓nI_423 F, ↓nI_425 F, ↓nI_426 F, ↓nI_428 F, ↓nI_429 F, ↓nI_432 F, ↓nI_433 F, ↓nI_434 F, il_0, il_1, il_3, il_4, il_5, il_10, il_47, Int.natCast_add, Int.natCast_one])
theorem y_weighAll (F : Fix z) (hS : SpO (V 18)) {n : Nat} (hn : n ≤ 6) (h5 : V 10 5 = n) : ∃ V', (∀ c, c ≠ 427 → c ≠ 428 → c ≠ 429 → V' c = V c) ∧ WS V' (V 18) n (fct (n - 1)) ∧ cA m_Rounds_weighAll [.ref 427, .ref 9] (em V J z) = some (.null, em V' J z) := by
  have fl := fct_le hn
  obtain ⟨V1, f1, f2, f3⟩ := y_wrow (J := J) F (x := iv n) 6 0 V (by omega) (fun j j0 j1 => absurd j1 (by omega))
  have r0 := (R_at hn).1
  obtain ⟨V', b1, b2, b3⟩ := y_weighAll_l (J := J) F hS hn (fct (n - 1) - 1) 0 (sv (sv V1 427 4 0) 427 3 0) (by omega) (by simp (disch := first | decide | omega | (simp (disch := first | decide | omega) only [sv_s, sv_o, ur_s, ur_e, ur_o]; omega)) only [↓reduceIte, iv_add, iv_sub, iv_mul, iv_neg, iv_ltT, iv_ltF, iv_leT, iv_leF, iv_eqT, iv_eqF, iv_div, iv_mod, ↓bnI_s, ↓bnV_s, ↓bnJ_s, ↓bnR_s, rt_e, rt_0, rt_bz, sv_s, sv_o, ur_s, ur_e, ur_o, bz_T, bz_F, nat_eqF, Nat.reduceAdd]; exact f1 18 (by decide)) ⟨((R_at hn).2 0 (by omega)).1, ((R_at hn).2 0 (by omega)).2.1, fun k hk => by
    simp (disch := first | decide | omega | (simp (disch := first | decide | omega) only [sv_s, sv_o, ur_s, ur_e, ur_o]; omega)) only [↓reduceIte, iv_add, iv_sub, iv_mul, iv_neg, iv_ltT, iv_ltF, iv_leT, iv_leF, iv_eqT, iv_eqF, iv_div, iv_mod, ↓bnI_s, ↓bnV_s, ↓bnJ_s, ↓bnR_s, rt_e, rt_0, rt_bz, sv_s, sv_o, ur_s, ur_e, ur_o, bz_T, bz_F, nat_eqF, Nat.reduceAdd]
    rw [f2 k (by omega) (by omega), r0]
    rcases (show k = 0 ∨ k = 1 ∨ k = 2 ∨ k = 3 ∨ k = 4 ∨ k = 5 by omega) with rfl | rfl | rfl | rfl | rfl | rfl <;> rfl⟩ ⟨fun h => absurd h (by omega), by simp (disch := first | decide | omega | (simp (disch := first | decide | omega) only [sv_s, sv_o, ur_s, ur_e, ur_o]; omega)) only [↓reduceIte, iv_add, iv_sub, iv_mul, iv_neg, iv_ltT, iv_ltF, iv_leT, iv_leF, iv_eqT, iv_eqF, iv_div, iv_mod, ↓bnI_s, ↓bnV_s, ↓bnJ_s, ↓bnR_s, rt_e, rt_0, rt_bz, sv_s, sv_o, ur_s, ur_e, ur_o, bz_T, bz_F, nat_eqF, Nat.reduceAdd]; rfl, by simp (disch := first | decide | omega | (simp (disch := first | decide | omega) only [sv_s, sv_o, ur_s, ur_e, ur_o]; omega)) only [↓reduceIte, iv_add, iv_sub, iv_mul, iv_neg, iv_ltT, iv_ltF, iv_leT, iv_leF, iv_eqT, iv_eqF, iv_div, iv_mod, ↓bnI_s, ↓bnV_s, ↓bnJ_s, ↓bnR_s, rt_e, rt_0, rt_bz, sv_s, sv_o, ur_s, ur_e, ur_o, bz_T, bz_F, nat_eqF, Nat.reduceAdd]; rfl⟩
  refine ⟨V', fun c c1 c2 c3 => by rw [b1 c c1 c2 c3, sv_o c1, sv_o c1, f1 c c2], b2, ?_⟩
  have a : cA m_Rounds_weighAll [.ref 427, .ref 9] (em V J z) = rX m_Rounds_weighAll m_Rounds_weighAll 10 [.ref 427, .ref 9, .int (iv n), .int (iv ((0 : Nat) : Int)), dd] [] (em V J z) := by
    simp (disch := first | decide | omega | (simp (disch := first | decide | omega) only [sv_s, sv_o, ur_s, ur_e, ur_o]; omega)) only [↓reduceIte, iv_add, iv_sub, iv_mul, iv_neg, iv_ltT, iv_ltF, iv_leT, iv_leF, iv_eqT, iv_eqF, iv_div, iv_mod, ↓bnI_s, ↓bnV_s, ↓bnJ_s, ↓bnR_s, rt_e, rt_0, rt_bz, sv_s, sv_o, ur_s, ur_e, ur_o, bz_T, bz_F, nat_eqF, Nat.reduceAdd, ↓q_Rounds_weighAll, ↓gR_9_0 F, ↓gI_10_5 F, ↓gd_427 F, il_0, il_1, il_2, il_5, il_7, il_10, il_21, h5]
    rfl
  rw [a, f3, ← b3]
  (rw [q_Rounds_weighAll_10]; simp (disch := first | decide | omega | (simp (disch := first | decide | omega) only [sv_s, sv_o, ur_s, ur_e, ur_o]; omega)) only [↓reduceIte, iv_add, iv_sub, iv_mul, iv_neg, iv_ltT, iv_ltF, iv_leT, iv_leF, iv_eqT, iv_eqF, iv_div, iv_mod, ↓bnI_s, ↓bnV_s, ↓bnJ_s, ↓bnR_s, rt_e, rt_0, rt_bz, sv_s, sv_o, ur_s, ur_e, ur_o, bz_T, bz_F, nat_eqF, Nat.reduceAdd, ↓gR_427_0 F, ↓pI_427_4 F, ↓pI_427_3 F, ↓sI_18 F, ↓sI_19 F, ↓sI_20 F, ↓sI_22 F, ↓sI_23 F, ↓sI_25 F, ↓sI_26 F, ↓sI_28 F, ↓sI_29 F, ↓sI_418 F, ↓sI_420 F, ↓sI_421 F, ↓sI_422 F, ↓sI_423 F, ↓sI_425 F, ↓sI_426 F, ↓sI_428 F, ↓sI_429 F, ↓sI_432 F, ↓sI_433 F, ↓sI_434 F, ↓nI_18 F, ↓nI_19 F, ↓nI_20 F, ↓nI_22 F, ↓nI_23 F, ↓nI_25 F, ↓nI_26 F, ↓nI_28 F, ↓nI_29 F, ↓nI_418 F, ↓nI_420 F, ↓nI_421 F, ↓nI_422 F, ↓nI_423 F, ↓nI_425 F, ↓nI_426 F, ↓nI_428 F, ↓nI_429 F, ↓nI_432 F, ↓nI_433 F, ↓nI_434 F, il_0, il_1, il_3, il_4, il_5, il_10, il_47])
  rfl
end
