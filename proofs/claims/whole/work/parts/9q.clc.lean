/-! THE READING: clauses, in the class; those that are no laws -/
def fiC (V : Vm) (n k a b : Int) : Vm := sv (pt (pt (pt V 425 72 (3 * n) k) 425 72 (3 * n + 1) a) 425 72 (3 * n + 2) b) 424 3 (n + 1)
theorem pt_o {V : Vm} {a b : Nat} {n i x : Int} (h : b ≠ a) : pt V a n i x b = V b := by
  unfold pt
  split
  · simp (disch := first | decide | omega | (simp (disch := first | decide | omega) only [sv_s, sv_o, ur_s, ur_e, ur_o]; omega)) only [↓reduceIte, iv_add, iv_sub, iv_mul, iv_neg, iv_ltT, iv_ltF, iv_leT, iv_leF, iv_eqT, iv_eqF, iv_div, iv_mod, ↓bnI_s, ↓bnV_s, ↓bnJ_s, ↓bnR_s, rt_e, rt_0, rt_bz, sv_s, sv_o, ur_s, ur_e, ur_o, bz_T, bz_F, nat_eqF, Nat.reduceAdd]
  · rfl
theorem fiC_4 {V : Vm} {n k a b q : Int} (h : q ≠ 3) : fiC V n k a b 424 q = V 424 q := by
  unfold fiC
  simp (disch := first | decide | omega | (simp (disch := first | decide | omega) only [sv_s, sv_o, ur_s, ur_e, ur_o]; omega)) only [↓reduceIte, iv_add, iv_sub, iv_mul, iv_neg, iv_ltT, iv_ltF, iv_leT, iv_leF, iv_eqT, iv_eqF, iv_div, iv_mod, ↓bnI_s, ↓bnV_s, ↓bnJ_s, ↓bnR_s, rt_e, rt_0, rt_bz, sv_s, sv_o, ur_s, ur_e, ur_o, bz_T, bz_F, nat_eqF, Nat.reduceAdd, pt_o]
theorem fiC_o {V : Vm} {n k a b : Int} {c : Nat} (h1 : c ≠ 424) (h2 : c ≠ 425) : fiC V n k a b c = V c := by
  unfold fiC
  simp (disch := first | decide | omega | (simp (disch := first | decide | omega) only [sv_s, sv_o, ur_s, ur_e, ur_o]; omega)) only [↓reduceIte, iv_add, iv_sub, iv_mul, iv_neg, iv_ltT, iv_ltF, iv_leT, iv_leF, iv_eqT, iv_eqF, iv_div, iv_mod, ↓bnI_s, ↓bnV_s, ↓bnJ_s, ↓bnR_s, rt_e, rt_0, rt_bz, sv_s, sv_o, ur_s, ur_e, ur_o, bz_T, bz_F, nat_eqF, Nat.reduceAdd, pt_o]
theorem fiC_in {V : Vm} {n k a b : Int} (hn : 0 ≤ n ∧ n < 24) : fiC V n k a b 425 (3 * n) = k ∧ fiC V n k a b 425 (3 * n + 1) = a ∧ fiC V n k a b 425 (3 * n + 2) = b ∧ ∀ q, q < 3 * n → fiC V n k a b 425 q = V 425 q := by
  unfold fiC
  rw [pt_in (by omega), pt_in (by omega), pt_in (by omega)]
  exact ⟨by simp (disch := first | decide | omega | (simp (disch := first | decide | omega) only [sv_s, sv_o, ur_s, ur_e, ur_o]; omega)) only [↓reduceIte, iv_add, iv_sub, iv_mul, iv_neg, iv_ltT, iv_ltF, iv_leT, iv_leF, iv_eqT, iv_eqF, iv_div, iv_mod, ↓bnI_s, ↓bnV_s, ↓bnJ_s, ↓bnR_s, rt_e, rt_0, rt_bz, sv_s, sv_o, ur_s, ur_e, ur_o, bz_T, bz_F, nat_eqF, Nat.reduceAdd], by simp (disch := first | decide | omega | (simp (disch := first | decide | omega) only [sv_s, sv_o, ur_s, ur_e, ur_o]; omega)) only [↓reduceIte, iv_add, iv_sub, iv_mul, iv_neg, iv_ltT, iv_ltF, iv_leT, iv_leF, iv_eqT, iv_eqF, iv_div, iv_mod, ↓bnI_s, ↓bnV_s, ↓bnJ_s, ↓bnR_s, rt_e, rt_0, rt_bz, sv_s, sv_o, ur_s, ur_e, ur_o, bz_T, bz_F, nat_eqF, Nat.reduceAdd], by simp (disch := first | decide | omega | (simp (disch := first | decide | omega) only [sv_s, sv_o, ur_s, ur_e, ur_o]; omega)) only [↓reduceIte, iv_add, iv_sub, iv_mul, iv_neg, iv_ltT, iv_ltF, iv_leT, iv_leF, iv_eqT, iv_eqF, iv_div, iv_mod, ↓bnI_s, ↓bnV_s, ↓bnJ_s, ↓bnR_s, rt_e, rt_0, rt_bz, sv_s, sv_o, ur_s, ur_e, ur_o, bz_T, bz_F, nat_eqF, Nat.reduceAdd], fun q hq => by simp (disch := first | decide | omega | (simp (disch := first | decide | omega) only [sv_s, sv_o, ur_s, ur_e, ur_o]; omega)) only [↓reduceIte, iv_add, iv_sub, iv_mul, iv_neg, iv_ltT, iv_ltF, iv_leT, iv_leF, iv_eqT, iv_eqF, iv_div, iv_mod, ↓bnI_s, ↓bnV_s, ↓bnJ_s, ↓bnR_s, rt_e, rt_0, rt_bz, sv_s, sv_o, ur_s, ur_e, ur_o, bz_T, bz_F, nat_eqF, Nat.reduceAdd]⟩
section
variable {V W J : Vm} {z zm : Zz} {s : Sm} {i j n c ra ba k a b f g lo hi v w on σ x r y : Int} {U U' U1 U2 K K1 K2 : Vm}
theorem fiC_fr : frC V (fiC V n k a b) := fun c h1 h2 _ => fiC_o h1 h2
theorem Cd.fin_ (D : Cd V s f g) : Cd (fiC V n k a b) s f g := by
  obtain ⟨d1, d2, d3, d4, d5⟩ := D
  refine ⟨fiC_fr.cs d1, ?_, ?_, ?_, ?_⟩
  · rw [fiC_4 (by decide)]; exact d2
  · rw [fiC_4 (by decide)]; exact d3
  · rw [fiC_4 (by decide)]; exact d4
  · rw [fiC_4 (by decide)]; exact d5
theorem y_161 (F : Fix z) (e : cA m_Reader_expect [.ref 424, .int (iv 35)] (em V J z) = some (.null, em W J z)) (hn : W 424 3 = n) (nr : 0 ≤ n ∧ n ≤ 30) : rX m_Reader_readClause m_Reader_readClause 161 [.ref 424, .int (iv k), .int (iv a), .int (iv b)] [] (em V J z) = some (.null, em (fiC W n k a b) J z) := by
  have t1 : pt W 425 72 (3 * n) k 424 = W 424 := pt_o (by decide)
  have t2 : pt (pt W 425 72 (3 * n) k) 425 72 (3 * n + 1) a 424 = W 424 := (pt_o (by decide)).trans t1
  have t3 : pt (pt (pt W 425 72 (3 * n) k) 425 72 (3 * n + 1) a) 425 72 (3 * n + 2) b 424 = W 424 := (pt_o (by decide)).trans t2
  unfold fiC
  (rw [q_Reader_readClause_161]; simp (disch := first | decide | omega | (simp (disch := first | decide | omega) only [sv_s, sv_o, ur_s, ur_e, ur_o]; omega)) only [↓reduceIte, iv_add, iv_sub, iv_mul, iv_neg, iv_ltT, iv_ltF, iv_leT, iv_leF, iv_eqT, iv_eqF, iv_div, iv_mod, ↓bnI_s, ↓bnV_s, ↓bnJ_s, ↓bnR_s, rt_e, rt_0, rt_bz, sv_s, sv_o, ur_s, ur_e, ur_o, bz_T, bz_F, nat_eqF, Nat.reduceAdd, ↓gR_424_1 F, ↓gI_424_3 F, ↓pI_424_3 F, il_0, il_1, il_2, il_3, il_4, il_35, il_161, e, hn, y_put (s_425 F), t1, t2, t3, Int.cast_ofNat_Int])
theorem rd_dead (F : Fix z) (S : SO s) (D : Cd V s f g) (hn : V 424 3 = n) (nr : 0 ≤ n ∧ n ≤ 30) (hk : 0 ≤ k ∧ k ≤ 41) : ∃ V', cA m_Reader_readClause [.ref 424, .int (iv k)] (em V J z) = some (.null, em V' J z) ∧ Cd V' s f g ∧ frC V V' := by
  have q161 := fun a b => y_161 (J := J) F (y_expectd F D (x := 35)) hn nr (k := k) (a := a) (b := b)
  obtain ⟨x1, n1⟩ := y_numd (J := J) F S D (lo := 0) (hi := 9) (by decide)
  obtain ⟨x2, n2⟩ := y_numd (J := J) F S D (lo := 0) (hi := 99) (by decide)
  obtain ⟨x3, n3⟩ := y_numd (J := J) F S D (lo := 0) (hi := 5) (by decide)
  obtain ⟨x4, n4⟩ := y_numd (J := J) F S D (lo := 1) (hi := 99) (by decide)
  obtain ⟨x5, n5⟩ := y_numd (J := J) F S D (lo := 1) (hi := 60) (by decide)
  have e3 := y_expectd (J := J) F D (x := 3)
  have e6 := y_expectd (J := J) F D (x := 6)
  have e9 := y_expectd (J := J) F D (x := 9)
  have rl : ∀ k, cA m_Reader_readLaw [.ref 424, .int (iv k)] (em V J z) = some (.null, em V J z) := fun k => by
    have d3 := D.2.2.1
    generalize V 424 9 = ff at d3
    have h9 := D.2.2.1.1
    have h0 := D.2.2.1.2
    simp (disch := first | decide | omega | (simp (disch := first | decide | omega) only [sv_s, sv_o, ur_s, ur_e, ur_o]; omega)) only [↓reduceIte, iv_add, iv_sub, iv_mul, iv_neg, iv_ltT, iv_ltF, iv_leT, iv_leF, iv_eqT, iv_eqF, iv_div, iv_mod, ↓bnI_s, ↓bnV_s, ↓bnJ_s, ↓bnR_s, rt_e, rt_0, rt_bz, sv_s, sv_o, ur_s, ur_e, ur_o, bz_T, bz_F, nat_eqF, Nat.reduceAdd, ↓q_Reader_readLaw, ↓gI_424_9 F, ↓gI_424_7 F, ↓gI_424_4 F, ↓pI_424_7 F, ↓pI_424_5 F, ↓pI_424_6 F, ↓gd_424 F, il_0, il_1, il_4, il_5, il_6, il_7, il_9, il_20, il_35, h9]
  by_cases k0 : k = 0
  · refine ⟨fiC V n k 0 0, ?_, D.fin_, fiC_fr⟩
    have e := q161 0 0
    have r := rl 0
    subst k0
    (rw [q_Reader_readClause]; simp (disch := first | decide | omega | (simp (disch := first | decide | omega) only [sv_s, sv_o, ur_s, ur_e, ur_o]; omega)) only [↓reduceIte, iv_add, iv_sub, iv_mul, iv_neg, iv_ltT, iv_ltF, iv_leT, iv_leF, iv_eqT, iv_eqF, iv_div, iv_mod, ↓bnI_s, ↓bnV_s, ↓bnJ_s, ↓bnR_s, rt_e, rt_0, rt_bz, sv_s, sv_o, ur_s, ur_e, ur_o, bz_T, bz_F, nat_eqF, Nat.reduceAdd, ↓gd_424 F, il_0, il_1, il_2, il_3, il_5, il_6, il_8, il_9, il_10, il_20, il_60, il_99, il_161, r, e])
  · by_cases k1 : k = 1
    · refine ⟨fiC V n k 0 0, ?_, D.fin_, fiC_fr⟩
      have e := q161 0 0
      have r := rl 1
      subst k1
      (rw [q_Reader_readClause]; simp (disch := first | decide | omega | (simp (disch := first | decide | omega) only [sv_s, sv_o, ur_s, ur_e, ur_o]; omega)) only [↓reduceIte, iv_add, iv_sub, iv_mul, iv_neg, iv_ltT, iv_ltF, iv_leT, iv_leF, iv_eqT, iv_eqF, iv_div, iv_mod, ↓bnI_s, ↓bnV_s, ↓bnJ_s, ↓bnR_s, rt_e, rt_0, rt_bz, sv_s, sv_o, ur_s, ur_e, ur_o, bz_T, bz_F, nat_eqF, Nat.reduceAdd, ↓gd_424 F, il_0, il_1, il_2, il_3, il_5, il_6, il_8, il_9, il_10, il_20, il_60, il_99, il_161, r, e])
    · by_cases k2 : k = 2
      · refine ⟨fiC V n k x1 x2, ?_, D.fin_, fiC_fr⟩
        have e := q161 x1 x2
        subst k2
        (rw [q_Reader_readClause]; simp (disch := first | decide | omega | (simp (disch := first | decide | omega) only [sv_s, sv_o, ur_s, ur_e, ur_o]; omega)) only [↓reduceIte, iv_add, iv_sub, iv_mul, iv_neg, iv_ltT, iv_ltF, iv_leT, iv_leF, iv_eqT, iv_eqF, iv_div, iv_mod, ↓bnI_s, ↓bnV_s, ↓bnJ_s, ↓bnR_s, rt_e, rt_0, rt_bz, sv_s, sv_o, ur_s, ur_e, ur_o, bz_T, bz_F, nat_eqF, Nat.reduceAdd, ↓gd_424 F, il_0, il_1, il_2, il_3, il_5, il_6, il_8, il_9, il_10, il_20, il_60, il_99, il_161, n1, e3, n2, e])
      · by_cases k5 : k = 5
        · refine ⟨fiC V n k x3 x4, ?_, D.fin_, fiC_fr⟩
          have e := q161 x3 x4
          subst k5
          (rw [q_Reader_readClause]; simp (disch := first | decide | omega | (simp (disch := first | decide | omega) only [sv_s, sv_o, ur_s, ur_e, ur_o]; omega)) only [↓reduceIte, iv_add, iv_sub, iv_mul, iv_neg, iv_ltT, iv_ltF, iv_leT, iv_leF, iv_eqT, iv_eqF, iv_div, iv_mod, ↓bnI_s, ↓bnV_s, ↓bnJ_s, ↓bnR_s, rt_e, rt_0, rt_bz, sv_s, sv_o, ur_s, ur_e, ur_o, bz_T, bz_F, nat_eqF, Nat.reduceAdd, ↓gd_424 F, il_0, il_1, il_2, il_3, il_5, il_6, il_8, il_9, il_10, il_20, il_60, il_99, il_161, n3, e6, n4, e])
        · by_cases k8 : k = 8
          · refine ⟨fiC V n k x3 x3, ?_, D.fin_, fiC_fr⟩
            have e := q161 x3 x3
            subst k8
            (rw [q_Reader_readClause]; simp (disch := first | decide | omega | (simp (disch := first | decide | omega) only [sv_s, sv_o, ur_s, ur_e, ur_o]; omega)) only [↓reduceIte, iv_add, iv_sub, iv_mul, iv_neg, iv_ltT, iv_ltF, iv_leT, iv_leF, iv_eqT, iv_eqF, iv_div, iv_mod, ↓bnI_s, ↓bnV_s, ↓bnJ_s, ↓bnR_s, rt_e, rt_0, rt_bz, sv_s, sv_o, ur_s, ur_e, ur_o, bz_T, bz_F, nat_eqF, Nat.reduceAdd, ↓gd_424 F, il_0, il_1, il_2, il_3, il_5, il_6, il_8, il_9, il_10, il_20, il_60, il_99, il_161, n3, e9, e])
          · by_cases k10 : k = 10
            · refine ⟨fiC V n k x5 0, ?_, D.fin_, fiC_fr⟩
              have e := q161 x5 0
              subst k10
              (rw [q_Reader_readClause]; simp (disch := first | decide | omega | (simp (disch := first | decide | omega) only [sv_s, sv_o, ur_s, ur_e, ur_o]; omega)) only [↓reduceIte, iv_add, iv_sub, iv_mul, iv_neg, iv_ltT, iv_ltF, iv_leT, iv_leF, iv_eqT, iv_eqF, iv_div, iv_mod, ↓bnI_s, ↓bnV_s, ↓bnJ_s, ↓bnR_s, rt_e, rt_0, rt_bz, sv_s, sv_o, ur_s, ur_e, ur_o, bz_T, bz_F, nat_eqF, Nat.reduceAdd, ↓gd_424 F, il_0, il_1, il_2, il_3, il_5, il_6, il_8, il_9, il_10, il_20, il_60, il_99, il_161, n5, e])
            · refine ⟨fiC V n k x3 0, ?_, D.fin_, fiC_fr⟩
              have e := q161 x3 0
              have j0 : k < 0 ∨ 0 < k := by omega
              have j1 : k < 1 ∨ 1 < k := by omega
              have j2 : k < 2 ∨ 2 < k := by omega
              have j5 : k < 5 ∨ 5 < k := by omega
              have j8 : k < 8 ∨ 8 < k := by omega
              have j10 : k < 10 ∨ 10 < k := by omega
              (rw [q_Reader_readClause]; simp (disch := first | decide | omega | (simp (disch := first | decide | omega) only [sv_s, sv_o, ur_s, ur_e, ur_o]; omega)) only [↓reduceIte, iv_add, iv_sub, iv_mul, iv_neg, iv_ltT, iv_ltF, iv_leT, iv_leF, iv_eqT, iv_eqF, iv_div, iv_mod, ↓bnI_s, ↓bnV_s, ↓bnJ_s, ↓bnR_s, rt_e, rt_0, rt_bz, sv_s, sv_o, ur_s, ur_e, ur_o, bz_T, bz_F, nat_eqF, Nat.reduceAdd, ↓gd_424 F, il_0, il_1, il_2, il_3, il_5, il_6, il_8, il_9, il_10, il_20, il_60, il_99, il_161, n3, e])
theorem y_opensClause {h : Mem} (hk : 0 ≤ k ∧ k ≤ 41) : cA m_Kind_opensClause [.int (iv k)] h = some (.int (iv (bz (0 ≤ srt k))), h) := by
  by_cases c : k = 0 ∨ k = 1 ∨ k = 2 ∨ k = 4 ∨ k = 5 ∨ k = 7 ∨ k = 8 ∨ k = 10
  · rcases c with rfl | rfl | rfl | rfl | rfl | rfl | rfl | rfl
    all_goals
      rw [bz_T (by decide)]
      simp (disch := first | decide | omega | (simp (disch := first | decide | omega) only [sv_s, sv_o, ur_s, ur_e, ur_o]; omega)) only [↓reduceIte, iv_add, iv_sub, iv_mul, iv_neg, iv_ltT, iv_ltF, iv_leT, iv_leF, iv_eqT, iv_eqF, iv_div, iv_mod, ↓bnI_s, ↓bnV_s, ↓bnJ_s, ↓bnR_s, rt_e, rt_0, rt_bz, sv_s, sv_o, ur_s, ur_e, ur_o, bz_T, bz_F, nat_eqF, Nat.reduceAdd, ↓q_Kind_opensClause, il_0, il_1, il_2, il_4, il_5, il_7, il_8, il_10]
  · have no : ¬ 0 ≤ srt k := by unfold srt; rw [if_neg (by omega), if_neg (by omega), if_neg (by omega), if_neg (by omega), if_neg (by omega), if_neg (by omega), if_neg (by omega), if_neg (by omega)]; decide
    rw [bz_F no]
    have j0 : k < 0 ∨ 0 < k := by omega
    have j1 : k < 1 ∨ 1 < k := by omega
    have j2 : k < 2 ∨ 2 < k := by omega
    have j4 : k < 4 ∨ 4 < k := by omega
    have j5 : k < 5 ∨ 5 < k := by omega
    have j7 : k < 7 ∨ 7 < k := by omega
    have j8 : k < 8 ∨ 8 < k := by omega
    have j10 : k < 10 ∨ 10 < k := by omega
    clear no c
    simp (disch := first | decide | omega | (simp (disch := first | decide | omega) only [sv_s, sv_o, ur_s, ur_e, ur_o]; omega)) only [↓reduceIte, iv_add, iv_sub, iv_mul, iv_neg, iv_ltT, iv_ltF, iv_leT, iv_leF, iv_eqT, iv_eqF, iv_div, iv_mod, ↓bnI_s, ↓bnV_s, ↓bnJ_s, ↓bnR_s, rt_e, rt_0, rt_bz, sv_s, sv_o, ur_s, ur_e, ur_o, bz_T, bz_F, nat_eqF, Nat.reduceAdd, ↓q_Kind_opensClause, il_0, il_1, il_2, il_4, il_5, il_7, il_8, il_10]
def ag (k ra ba : Int) : Prop := (k = 0 ∧ ra ≠ -1) ∨ (k = 1 ∧ ba ≠ -1)
/-- how the class opens a clause -/
theorem y_open (F : Fix z) (S : SO s) (P : Cc V s i n c ra ba) (hi' : 0 ≤ i ∧ i ≤ sM s) (hr : -1 ≤ ra ∧ ra ≤ 400 ∧ -1 ≤ ba ∧ ba ≤ 400) (hc : 0 ≤ c ∧ c ≤ i) (hn : 0 ≤ n ∧ n ≤ 24) : (srt (sK s i) = -1 → cA m_Reader_openClause [.ref 424] (em V J z) = some (.int (iv (sK s i)), em (sv (sv V 424 9 1) 424 10 (sP s i)) J z)) ∧ (0 ≤ srt (sK s i) → ag (sK s i) ra ba → cA m_Reader_openClause [.ref 424] (em V J z) = some (.int (iv (sK s i)), em (sv (sv V 424 9 4) 424 10 (sP s i)) J z)) ∧ (0 ≤ srt (sK s i) → ¬ ag (sK s i) ra ba → n = 24 → cA m_Reader_openClause [.ref 424] (em V J z) = some (.int (iv (sK s i)), em (sv (sv V 424 9 6) 424 10 (sP s i)) J z)) ∧ (0 ≤ srt (sK s i) → ¬ ag (sK s i) ra ba → n < 24 → cA m_Reader_openClause [.ref 424] (em V J z) = some (.int (iv (sK s i)), em (sv V 424 8 (i + 1)) J z)) := by
  obtain ⟨p1, p2, p3, p4, p5, p6, p7⟩ := P
  have kd := y_kind (J := J) F S p1 (by omega)
  rw [p2] at kd
  have kr := (S.rg hi'.1 hi'.2).2.2.1
  have oc := y_opensClause (k := sK s i) (h := em V J z) (by omega)
  have Pc : Cp V (sl s (V 424 7)) i c := ⟨p1, p2, p3, p5, rfl, p7.2⟩
  have fl : ∀ x, cA m_Reader_fail [.ref 424, .int (iv x)] (em V J z) = some (.null, em (sv (sv V 424 9 x) 424 10 (sP s i)) J z) := fun x => by
    have c3 := p1.2.2.1
    have S1 := S.1
    simp (disch := first | decide | omega | (simp (disch := first | decide | omega) only [sv_s, sv_o, ur_s, ur_e, ur_o]; omega)) only [↓reduceIte, iv_add, iv_sub, iv_mul, iv_neg, iv_ltT, iv_ltF, iv_leT, iv_leF, iv_eqT, iv_eqF, iv_div, iv_mod, ↓bnI_s, ↓bnV_s, ↓bnJ_s, ↓bnR_s, rt_e, rt_0, rt_bz, sv_s, sv_o, ur_s, ur_e, ur_o, bz_T, bz_F, nat_eqF, Nat.reduceAdd, ↓q_Reader_fail, ↓gI_424_9 F, ↓gR_424_0 F, ↓gR_419_4 F, ↓gI_424_8 F, ↓pI_424_9 F, ↓pI_424_10 F, ↓gd_424 F, il_0, il_1, il_4, il_8, il_9, il_10, il_20, p2, p3, c3, y_get (s_423 F), rd_in]
  have st : ∀ y : Int, (y = 1 ∧ ag (sK s i) ra ba) ∨ (y = 0 ∧ ¬ ag (sK s i) ra ba) → cA m_Reader_openClause [.ref 424] (em V J z) = rX m_Reader_openClause m_Reader_openClause 35 [.ref 424, .int (iv (sK s i)), dd] [.int (iv y)] (em V J z) := by
    intro y hy
    unfold ag at hy
    generalize sK s i = k at *
    by_cases k0 : k = 0
    · subst k0
      by_cases a1 : ra = -1
      · have y0 : y = 0 := by omega
        subst y0
        rw [a1] at p6
        simp (disch := first | decide | omega | (simp (disch := first | decide | omega) only [sv_s, sv_o, ur_s, ur_e, ur_o]; omega)) only [↓reduceIte, iv_add, iv_sub, iv_mul, iv_neg, iv_ltT, iv_ltF, iv_leT, iv_leF, iv_eqT, iv_eqF, iv_div, iv_mod, ↓bnI_s, ↓bnV_s, ↓bnJ_s, ↓bnR_s, rt_e, rt_0, rt_bz, sv_s, sv_o, ur_s, ur_e, ur_o, bz_T, bz_F, nat_eqF, Nat.reduceAdd, ↓q_Reader_openClause, ↓q_Reader_openClause_17, ↓gI_424_5 F, ↓gd_424 F, ↓gI_424_6 F, il_0, il_1, il_4, il_5, il_6, il_17, il_20, il_35, kd, p6]
      · have y0 : y = 1 := by omega
        subst y0
        have a1' : -1 < ra := by omega
        simp (disch := first | decide | omega | (simp (disch := first | decide | omega) only [sv_s, sv_o, ur_s, ur_e, ur_o]; omega)) only [↓reduceIte, iv_add, iv_sub, iv_mul, iv_neg, iv_ltT, iv_ltF, iv_leT, iv_leF, iv_eqT, iv_eqF, iv_div, iv_mod, ↓bnI_s, ↓bnV_s, ↓bnJ_s, ↓bnR_s, rt_e, rt_0, rt_bz, sv_s, sv_o, ur_s, ur_e, ur_o, bz_T, bz_F, nat_eqF, Nat.reduceAdd, ↓q_Reader_openClause, ↓gI_424_5 F, ↓gd_424 F, il_0, il_1, il_4, il_5, il_17, il_20, il_35, kd, p6]
    · by_cases k1 : k = 1
      · subst k1
        by_cases a1 : ba = -1
        · have y0 : y = 0 := by omega
          subst y0
          rw [a1] at p7
          simp (disch := first | decide | omega | (simp (disch := first | decide | omega) only [sv_s, sv_o, ur_s, ur_e, ur_o]; omega)) only [↓reduceIte, iv_add, iv_sub, iv_mul, iv_neg, iv_ltT, iv_ltF, iv_leT, iv_leF, iv_eqT, iv_eqF, iv_div, iv_mod, ↓bnI_s, ↓bnV_s, ↓bnJ_s, ↓bnR_s, rt_e, rt_0, rt_bz, sv_s, sv_o, ur_s, ur_e, ur_o, bz_T, bz_F, nat_eqF, Nat.reduceAdd, ↓q_Reader_openClause, ↓q_Reader_openClause_17, ↓gI_424_5 F, ↓gd_424 F, ↓gI_424_6 F, il_0, il_1, il_4, il_5, il_6, il_17, il_20, il_35, kd, p7]
        · have y0 : y = 1 := by omega
          subst y0
          have a1' : -1 < ba := by omega
          simp (disch := first | decide | omega | (simp (disch := first | decide | omega) only [sv_s, sv_o, ur_s, ur_e, ur_o]; omega)) only [↓reduceIte, iv_add, iv_sub, iv_mul, iv_neg, iv_ltT, iv_ltF, iv_leT, iv_leF, iv_eqT, iv_eqF, iv_div, iv_mod, ↓bnI_s, ↓bnV_s, ↓bnJ_s, ↓bnR_s, rt_e, rt_0, rt_bz, sv_s, sv_o, ur_s, ur_e, ur_o, bz_T, bz_F, nat_eqF, Nat.reduceAdd, ↓q_Reader_openClause, ↓q_Reader_openClause_17, ↓gI_424_5 F, ↓gd_424 F, ↓gI_424_6 F, il_0, il_1, il_4, il_5, il_6, il_17, il_20, il_35, kd, p7]
      · have y0 : y = 0 := by omega
        subst y0
        have k2 : 2 ≤ k := by omega
        simp (disch := first | decide | omega | (simp (disch := first | decide | omega) only [sv_s, sv_o, ur_s, ur_e, ur_o]; omega)) only [↓reduceIte, iv_add, iv_sub, iv_mul, iv_neg, iv_ltT, iv_ltF, iv_leT, iv_leF, iv_eqT, iv_eqF, iv_div, iv_mod, ↓bnI_s, ↓bnV_s, ↓bnJ_s, ↓bnR_s, rt_e, rt_0, rt_bz, sv_s, sv_o, ur_s, ur_e, ur_o, bz_T, bz_F, nat_eqF, Nat.reduceAdd, ↓q_Reader_openClause, ↓q_Reader_openClause_17, ↓gI_424_5 F, ↓gd_424 F, ↓gI_424_6 F, il_0, il_1, il_4, il_5, il_6, il_17, il_20, il_35, kd]
  have f1 := fl 1
  have f4 := fl 4
  have f6 := fl 6
  refine ⟨fun h => ?_, fun h a => ?_, fun h a h24 => ?_, fun h a h24 => ?_⟩
  · rw [bz_F (by omega)] at oc
    by_cases a : ag (sK s i) ra ba
    · rw [st 1 (Or.inl ⟨rfl, a⟩)]
      (rw [q_Reader_openClause_35]; simp (disch := first | decide | omega | (simp (disch := first | decide | omega) only [sv_s, sv_o, ur_s, ur_e, ur_o]; omega)) only [↓reduceIte, iv_add, iv_sub, iv_mul, iv_neg, iv_ltT, iv_ltF, iv_leT, iv_leF, iv_eqT, iv_eqF, iv_div, iv_mod, ↓bnI_s, ↓bnV_s, ↓bnJ_s, ↓bnR_s, rt_e, rt_0, rt_bz, sv_s, sv_o, ur_s, ur_e, ur_o, bz_T, bz_F, nat_eqF, Nat.reduceAdd, ↓gI_424_3 F, ↓gI_424_8 F, ↓pI_424_8 F, il_0, il_1, il_3, il_4, il_6, il_8, il_24, il_35, oc, f1])
    · rw [st 0 (Or.inr ⟨rfl, a⟩)]
      (rw [q_Reader_openClause_35]; simp (disch := first | decide | omega | (simp (disch := first | decide | omega) only [sv_s, sv_o, ur_s, ur_e, ur_o]; omega)) only [↓reduceIte, iv_add, iv_sub, iv_mul, iv_neg, iv_ltT, iv_ltF, iv_leT, iv_leF, iv_eqT, iv_eqF, iv_div, iv_mod, ↓bnI_s, ↓bnV_s, ↓bnJ_s, ↓bnR_s, rt_e, rt_0, rt_bz, sv_s, sv_o, ur_s, ur_e, ur_o, bz_T, bz_F, nat_eqF, Nat.reduceAdd, ↓gI_424_3 F, ↓gI_424_8 F, ↓pI_424_8 F, il_0, il_1, il_3, il_4, il_6, il_8, il_24, il_35, oc, f1])
  · rw [bz_T h] at oc
    rw [st 1 (Or.inl ⟨rfl, a⟩)]
    (rw [q_Reader_openClause_35]; simp (disch := first | decide | omega | (simp (disch := first | decide | omega) only [sv_s, sv_o, ur_s, ur_e, ur_o]; omega)) only [↓reduceIte, iv_add, iv_sub, iv_mul, iv_neg, iv_ltT, iv_ltF, iv_leT, iv_leF, iv_eqT, iv_eqF, iv_div, iv_mod, ↓bnI_s, ↓bnV_s, ↓bnJ_s, ↓bnR_s, rt_e, rt_0, rt_bz, sv_s, sv_o, ur_s, ur_e, ur_o, bz_T, bz_F, nat_eqF, Nat.reduceAdd, ↓gI_424_3 F, ↓gI_424_8 F, ↓pI_424_8 F, il_0, il_1, il_3, il_4, il_6, il_8, il_24, il_35, oc, f4])
  · rw [bz_T h] at oc
    rw [st 0 (Or.inr ⟨rfl, a⟩)]
    (rw [q_Reader_openClause_35]; simp (disch := first | decide | omega | (simp (disch := first | decide | omega) only [sv_s, sv_o, ur_s, ur_e, ur_o]; omega)) only [↓reduceIte, iv_add, iv_sub, iv_mul, iv_neg, iv_ltT, iv_ltF, iv_leT, iv_leF, iv_eqT, iv_eqF, iv_div, iv_mod, ↓bnI_s, ↓bnV_s, ↓bnJ_s, ↓bnR_s, rt_e, rt_0, rt_bz, sv_s, sv_o, ur_s, ur_e, ur_o, bz_T, bz_F, nat_eqF, Nat.reduceAdd, ↓gI_424_3 F, ↓gI_424_8 F, ↓pI_424_8 F, il_0, il_1, il_3, il_4, il_6, il_8, il_24, il_35, oc, p4, f6])
  · rw [bz_T h] at oc
    rw [st 0 (Or.inr ⟨rfl, a⟩)]
    (rw [q_Reader_openClause_35]; simp (disch := first | decide | omega | (simp (disch := first | decide | omega) only [sv_s, sv_o, ur_s, ur_e, ur_o]; omega)) only [↓reduceIte, iv_add, iv_sub, iv_mul, iv_neg, iv_ltT, iv_ltF, iv_leT, iv_leF, iv_eqT, iv_eqF, iv_div, iv_mod, ↓bnI_s, ↓bnV_s, ↓bnJ_s, ↓bnR_s, rt_e, rt_0, rt_bz, sv_s, sv_o, ur_s, ur_e, ur_o, bz_T, bz_F, nat_eqF, Nat.reduceAdd, ↓gI_424_3 F, ↓gI_424_8 F, ↓pI_424_8 F, il_0, il_1, il_3, il_4, il_6, il_8, il_24, il_35, oc, p4, p2])
/-- both read one clause -/
def ClS (zm : Zz) (s : Sm) (V V1 : Vm) (i n c ra ba : Int) : Prop :=
  (∃ j c' ra' ba', Cc V1 s j (n + 1) c' ra' ba' ∧ (i < j ∧ j ≤ sM s) ∧ n < 24 ∧ (0 ≤ c' ∧ c' ≤ j) ∧ (-1 ≤ ra' ∧ ra' ≤ 400 ∧ -1 ≤ ba' ∧ ba' ≤ 400) ∧ ∀ U K w on, Uc U K s i n w on → Rt V U s i n c w ra ba on → ∃ U' K' w' on', cA m_M_clause [.ref 435] (em U K zm) = some (.int (iv 0), em U' K' zm) ∧ Uc U' K' s j (n + 1) w' on' ∧ Rt V1 U' s j (n + 1) c' w' ra' ba' on' ∧ frW s U U') ∨
  ∃ j f, Cd V1 s f (sP s j) ∧ (i ≤ j ∧ j ≤ sM s) ∧ ∀ U K w on, Uc U K s i n w on → Rt V U s i n c w ra ba on → ∃ U' K', cA m_M_clause [.ref 435] (em U K zm) = some (.int (iv f), em U' K' zm) ∧ U' 435 8 = sP s j ∧ frW s U U'
theorem ag_on (R : Rt V U s i n c w ra ba on) (k : Int) : ag k ra ba ↔ ((srt k = 0 ∧ on % 2 = 1) ∨ (srt k = 1 ∧ on / 2 = 1)) := by
  obtain ⟨r1, r2, r3, r4, r5, r6, r7, r8, r9⟩ := R
  have q := srt_01 (k := k)
  unfold ag
  omega
/-- a clause that is no law has been read by both -/
theorem Rt.plain {V1 : Vm} (R : Rt V U s i n c w ra ba on) (hn : n < 24) (h5 : ∀ q, q < 3 * n → V1 425 q = V 425 q) (h6 : V1 426 = V 426) (cl : ∀ q, sX s + 1 ≤ q → q < sX s + 1 + 3 * n → U' 438 q = U 438 q) (co : ∀ q, sX s + 73 ≤ q → U' 438 q = U 438 q) (hσ : U' 438 (sX s + 1 + 3 * n) = σ) (s0 : σ ≠ 0 ∧ σ ≠ 1) (C : CLR (V1 425 (3 * n)) (V1 425 (3 * n + 1)) (V1 425 (3 * n + 2)) (U' 438 (sX s + 1 + 3 * n)) (U' 438 (sX s + 1 + 3 * n + 1)) (U' 438 (sX s + 1 + 3 * n + 2))) (hj : i ≤ j) : Rt V1 U' s j (n + 1) c w ra ba on := by
  obtain ⟨r1, r2, r3, r4, r5, r6, r7, r8, r9⟩ := R
  refine ⟨by omega, by omega, by omega, fun q q0 q1 => ?_, ?_, ?_, r7, r8, r9⟩
  · by_cases e : q = n
    · rw [e]; exact C
    · rw [h5 _ (by omega), h5 _ (by omega), h5 _ (by omega), cl _ (by omega) (by omega), cl _ (by omega) (by omega), cl _ (by omega) (by omega)]
      exact r4 q q0 (by omega)
  · exact r5.mono r1 r3.1 cl (fun q q0 _ => co q q0) (fun q _ => by rw [h6]) (by rw [hσ]; exact s0.1) (Int.le_refl _) (Int.le_refl _)
  · exact r6.mono r1 r3.1 cl (fun q q0 _ => co q q0) (fun q _ => by rw [h6]) (by rw [hσ]; exact s0.2) (Int.le_refl _) (Int.le_refl _)
/-- the fault at the first token of a clause -/
theorem cl_bad (F : Fix z) (G : Fix zm) (S : SO s) (P : Cc V s i n c ra ba) (hi' : 0 ≤ i ∧ i ≤ sM s) (hr : -1 ≤ ra ∧ ra ≤ 400 ∧ -1 ≤ ba ∧ ba ≤ 400) (hc : 0 ≤ c ∧ c ≤ i) (hn : 0 ≤ n ∧ n ≤ 24) (bad : srt (sK s i) = -1 ∨ ag (sK s i) ra ba ∨ n = 24) : ∃ V1, (bnI (cA m_Reader_openClause [.ref 424] (em V J z)) fun w5 h4 => cA m_Reader_readClause [.ref 424, .int w5] h4) = some (.null, em V1 J z) ∧ frC V V1 ∧ ClS zm s V V1 i n c ra ba := by
  obtain ⟨o1, o2, o3, o4⟩ := y_open (J := J) F S P hi' hr hc hn
  have S1 := S.1
  have kr := (S.rg hi'.1 hi'.2).2.2.1
  have sr := srt_rg (k := sK s i)
  have main : ∀ f : Int, (1 ≤ f ∧ f ≤ 6) → cA m_Reader_openClause [.ref 424] (em V J z) = some (.int (iv (sK s i)), em (sv (sv V 424 9 f) 424 10 (sP s i)) J z) → (∀ U K w on, Uc U K s i n w on → Rt V U s i n c w ra ba on → cA m_M_clause [.ref 435] (em U K zm) = some (.int (iv f), em U K zm)) → ∃ V1, (bnI (cA m_Reader_openClause [.ref 424] (em V J z)) fun w5 h4 => cA m_Reader_readClause [.ref 424, .int w5] h4) = some (.null, em V1 J z) ∧ frC V V1 ∧ ClS zm s V V1 i n c ra ba := by
    intro f hf ho hm
    have D : Cd (sv (sv V 424 9 f) 424 10 (sP s i)) s f (sP s i) := by
      obtain ⟨p1, p2, p3, p4, p5, p6, p7⟩ := P
      exact ⟨(frC.w4.tr frC.w4).cs p1, by simp (disch := first | decide | omega | (simp (disch := first | decide | omega) only [sv_s, sv_o, ur_s, ur_e, ur_o]; omega)) only [↓reduceIte, iv_add, iv_sub, iv_mul, iv_neg, iv_ltT, iv_ltF, iv_leT, iv_leF, iv_eqT, iv_eqF, iv_div, iv_mod, ↓bnI_s, ↓bnV_s, ↓bnJ_s, ↓bnR_s, rt_e, rt_0, rt_bz, sv_s, sv_o, ur_s, ur_e, ur_o, bz_T, bz_F, nat_eqF, Nat.reduceAdd, p2]; omega, ⟨by simp (disch := first | decide | omega | (simp (disch := first | decide | omega) only [sv_s, sv_o, ur_s, ur_e, ur_o]; omega)) only [↓reduceIte, iv_add, iv_sub, iv_mul, iv_neg, iv_ltT, iv_ltF, iv_leT, iv_leF, iv_eqT, iv_eqF, iv_div, iv_mod, ↓bnI_s, ↓bnV_s, ↓bnJ_s, ↓bnR_s, rt_e, rt_0, rt_bz, sv_s, sv_o, ur_s, ur_e, ur_o, bz_T, bz_F, nat_eqF, Nat.reduceAdd], hf⟩, by simp (disch := first | decide | omega | (simp (disch := first | decide | omega) only [sv_s, sv_o, ur_s, ur_e, ur_o]; omega)) only [↓reduceIte, iv_add, iv_sub, iv_mul, iv_neg, iv_ltT, iv_ltF, iv_leT, iv_leF, iv_eqT, iv_eqF, iv_div, iv_mod, ↓bnI_s, ↓bnV_s, ↓bnJ_s, ↓bnR_s, rt_e, rt_0, rt_bz, sv_s, sv_o, ur_s, ur_e, ur_o, bz_T, bz_F, nat_eqF, Nat.reduceAdd], by simp (disch := first | decide | omega | (simp (disch := first | decide | omega) only [sv_s, sv_o, ur_s, ur_e, ur_o]; omega)) only [↓reduceIte, iv_add, iv_sub, iv_mul, iv_neg, iv_ltT, iv_ltF, iv_leT, iv_leF, iv_eqT, iv_eqF, iv_div, iv_mod, ↓bnI_s, ↓bnV_s, ↓bnJ_s, ↓bnR_s, rt_e, rt_0, rt_bz, sv_s, sv_o, ur_s, ur_e, ur_o, bz_T, bz_F, nat_eqF, Nat.reduceAdd, p5]; omega⟩
    obtain ⟨V1, e1, e2, e3⟩ := rd_dead (J := J) F S D (by simp (disch := first | decide | omega | (simp (disch := first | decide | omega) only [sv_s, sv_o, ur_s, ur_e, ur_o]; omega)) only [↓reduceIte, iv_add, iv_sub, iv_mul, iv_neg, iv_ltT, iv_ltF, iv_leT, iv_leF, iv_eqT, iv_eqF, iv_div, iv_mod, ↓bnI_s, ↓bnV_s, ↓bnJ_s, ↓bnR_s, rt_e, rt_0, rt_bz, sv_s, sv_o, ur_s, ur_e, ur_o, bz_T, bz_F, nat_eqF, Nat.reduceAdd]; exact P.2.2.2.1) (by omega) (k := sK s i) (by omega)
    refine ⟨V1, by rw [ho, bnI_s, e1], (frC.w4.tr frC.w4).tr e3, Or.inr ⟨i, f, e2, by omega, fun U K w on hu R => ⟨U, K, hm U K w on hu R, hu.1.2.2.1, frW.rfl_⟩⟩⟩
  by_cases h1 : srt (sK s i) = -1
  · exact main 1 (by decide) (o1 h1) (fun U K w on hu R => c_no G S hu hi' h1)
  · by_cases h2 : ag (sK s i) ra ba
    · exact main 4 (by decide) (o2 (by omega) h2) (fun U K w on hu R => c_again G S hu hi' R.2.2.2.2.2.2.1 ((ag_on R _).mp h2))
    · have n24 : n = 24 := by
        rcases bad with b | b | b
        · exact absurd b h1
        · exact absurd b h2
        · exact b
      exact main 6 (by decide) (o3 (by omega) h2 n24) (fun U K w on hu R => by
        have na := fun q => h2 ((ag_on R _).mpr q)
        rw [c_29 G S hu hi' R.2.2.2.2.2.2.1 ⟨rfl, by omega⟩ na]
        exact c_full G S hu n24)
end
