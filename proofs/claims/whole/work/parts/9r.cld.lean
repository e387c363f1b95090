/-! THE READING: each sort of clause -/
section
variable {V V0 W J : Vm} {z zm : Zz} {s : Sm} {i j n c ra ba k a b f g lo hi lo2 hi2 h1 v w on σ x r y wd : Int} {U U' U1 U2 U3 U4 K K1 K2 K3 K4 : Vm}
theorem z_fail (F : Fix z) (S : SO s) (C : Cs V s) (h8 : V 424 8 = i) (h9 : V 424 9 = 0) (hi' : 0 ≤ i ∧ i ≤ sM s) : cA m_Reader_fail [.ref 424, .int (iv f)] (em V J z) = some (.null, em (sv (sv V 424 9 f) 424 10 (sP s i)) J z) := by
  have c3 := C.2.2.1
  have S1 := S.1
  simp (disch := first | decide | omega | (simp (disch := first | decide | omega) only [sv_s, sv_o, ur_s, ur_e, ur_o]; omega)) only [↓reduceIte, iv_add, iv_sub, iv_mul, iv_neg, iv_ltT, iv_ltF, iv_leT, iv_leF, iv_eqT, iv_eqF, iv_div, iv_mod, ↓bnI_s, ↓bnV_s, ↓bnJ_s, ↓bnR_s, rt_e, rt_0, rt_bz, sv_s, sv_o, ur_s, ur_e, ur_o, bz_T, bz_F, nat_eqF, Nat.reduceAdd, ↓q_Reader_fail, ↓gI_424_9 F, ↓gR_424_0 F, ↓gR_419_4 F, ↓gI_424_8 F, ↓pI_424_9 F, ↓pI_424_10 F, ↓gd_424 F, il_0, il_1, il_4, il_8, il_9, il_10, il_20, h8, h9, c3, y_get (s_423 F), rd_in]
theorem z_cd (C : Cs V s) (h8 : V 424 8 = i) (h4 : 0 ≤ V 424 4 ∧ V 424 4 ≤ 301) (hi' : 0 ≤ i ∧ i ≤ sM s) (hf : 1 ≤ f ∧ f ≤ 6) : Cd (sv (sv V 424 9 f) 424 10 (sP s i)) s f (sP s i) :=
  ⟨(frC.w4.tr frC.w4).cs C, by simp (disch := first | decide | omega | (simp (disch := first | decide | omega) only [sv_s, sv_o, ur_s, ur_e, ur_o]; omega)) only [↓reduceIte, iv_add, iv_sub, iv_mul, iv_neg, iv_ltT, iv_ltF, iv_leT, iv_leF, iv_eqT, iv_eqF, iv_div, iv_mod, ↓bnI_s, ↓bnV_s, ↓bnJ_s, ↓bnR_s, rt_e, rt_0, rt_bz, sv_s, sv_o, ur_s, ur_e, ur_o, bz_T, bz_F, nat_eqF, Nat.reduceAdd, h8]; exact hi', ⟨by simp (disch := first | decide | omega | (simp (disch := first | decide | omega) only [sv_s, sv_o, ur_s, ur_e, ur_o]; omega)) only [↓reduceIte, iv_add, iv_sub, iv_mul, iv_neg, iv_ltT, iv_ltF, iv_leT, iv_leF, iv_eqT, iv_eqF, iv_div, iv_mod, ↓bnI_s, ↓bnV_s, ↓bnJ_s, ↓bnR_s, rt_e, rt_0, rt_bz, sv_s, sv_o, ur_s, ur_e, ur_o, bz_T, bz_F, nat_eqF, Nat.reduceAdd], hf⟩, by simp (disch := first | decide | omega | (simp (disch := first | decide | omega) only [sv_s, sv_o, ur_s, ur_e, ur_o]; omega)) only [↓reduceIte, iv_add, iv_sub, iv_mul, iv_neg, iv_ltT, iv_ltF, iv_leT, iv_leF, iv_eqT, iv_eqF, iv_div, iv_mod, ↓bnI_s, ↓bnV_s, ↓bnJ_s, ↓bnR_s, rt_e, rt_0, rt_bz, sv_s, sv_o, ur_s, ur_e, ur_o, bz_T, bz_F, nat_eqF, Nat.reduceAdd], by simp (disch := first | decide | omega | (simp (disch := first | decide | omega) only [sv_s, sv_o, ur_s, ur_e, ur_o]; omega)) only [↓reduceIte, iv_add, iv_sub, iv_mul, iv_neg, iv_ltT, iv_ltF, iv_leT, iv_leF, iv_eqT, iv_eqF, iv_div, iv_mod, ↓bnI_s, ↓bnV_s, ↓bnJ_s, ↓bnR_s, rt_e, rt_0, rt_bz, sv_s, sv_o, ur_s, ur_e, ur_o, bz_T, bz_F, nat_eqF, Nat.reduceAdd]; exact h4⟩
theorem z_kind (F : Fix z) (S : SO s) (C : Cs V s) (h8 : V 424 8 = i) (hi' : 0 ≤ i ∧ i ≤ sM s) : cA m_Reader_kind [.ref 424] (em V J z) = some (.int (iv (sK s i)), em V J z) := by
  have q := y_kind (J := J) F S C (by omega)
  rw [h8] at q
  exact q
theorem z_exp1 (F : Fix z) (S : SO s) (C : Cs V s) (h8 : V 424 8 = i) (h9 : V 424 9 = 0) (hi' : 0 ≤ i ∧ i ≤ sM s) (hk : sK s i = k) : cA m_Reader_expect [.ref 424, .int (iv k)] (em V J z) = some (.null, em (sv V 424 8 (i + 1)) J z) := by
  have kd := z_kind (J := J) F S C h8 hi'
  rw [hk] at kd
  simp (disch := first | decide | omega | (simp (disch := first | decide | omega) only [sv_s, sv_o, ur_s, ur_e, ur_o]; omega)) only [↓reduceIte, iv_add, iv_sub, iv_mul, iv_neg, iv_ltT, iv_ltF, iv_leT, iv_leF, iv_eqT, iv_eqF, iv_div, iv_mod, ↓bnI_s, ↓bnV_s, ↓bnJ_s, ↓bnR_s, rt_e, rt_0, rt_bz, sv_s, sv_o, ur_s, ur_e, ur_o, bz_T, bz_F, nat_eqF, Nat.reduceAdd, ↓q_Reader_expect, ↓gI_424_9 F, ↓gI_424_8 F, ↓pI_424_8 F, ↓gd_424 F, il_0, il_1, il_4, il_8, il_9, il_20, h9, kd, h8]
theorem z_exp0 (F : Fix z) (S : SO s) (C : Cs V s) (h8 : V 424 8 = i) (h9 : V 424 9 = 0) (hi' : 0 ≤ i ∧ i ≤ sM s) (hk : sK s i ≠ k) (kr : 0 ≤ k ∧ k ≤ 41) : cA m_Reader_expect [.ref 424, .int (iv k)] (em V J z) = some (.null, em (sv (sv V 424 9 1) 424 10 (sP s i)) J z) := by
  have fl := z_fail (J := J) (f := 1) F S C h8 h9 hi'
  have kd := z_kind (J := J) F S C h8 hi'
  have q := (S.rg hi'.1 hi'.2).2.2.1
  have ne : sK s i < k ∨ k < sK s i := by omega
  generalize sK s i = kk at *
  simp (disch := first | decide | omega | (simp (disch := first | decide | omega) only [sv_s, sv_o, ur_s, ur_e, ur_o]; omega)) only [↓reduceIte, iv_add, iv_sub, iv_mul, iv_neg, iv_ltT, iv_ltF, iv_leT, iv_leF, iv_eqT, iv_eqF, iv_div, iv_mod, ↓bnI_s, ↓bnV_s, ↓bnJ_s, ↓bnR_s, rt_e, rt_0, rt_bz, sv_s, sv_o, ur_s, ur_e, ur_o, bz_T, bz_F, nat_eqF, Nat.reduceAdd, ↓q_Reader_expect, ↓gI_424_9 F, ↓gI_424_8 F, ↓pI_424_8 F, ↓gd_424 F, il_0, il_1, il_4, il_8, il_9, il_20, h9, kd, fl]
theorem z_numok (F : Fix z) (S : SO s) (C : Cs V s) (h8 : V 424 8 = i) (h9 : V 424 9 = 0) (hi' : 0 ≤ i ∧ i ≤ sM s) (hk : sK s i = 38) (hv : sV s i = v) (hb : lo ≤ v ∧ v ≤ hi) (hr : 0 ≤ lo ∧ hi ≤ 10000) : cA m_Reader_number [.ref 424, .int (iv lo), .int (iv hi)] (em V J z) = some (.int (iv v), em (sv V 424 8 (i + 1)) J z) := by
  have kd := z_kind (J := J) F S C h8 hi'
  rw [hk] at kd
  have S1 := S.1
  have wi := y_within (v := v) (lo := lo) (hi := hi) (h := em V J z) (by omega)
  rw [bz_T hb] at wi
  have c2 := C.2.1
  simp (disch := first | decide | omega | (simp (disch := first | decide | omega) only [sv_s, sv_o, ur_s, ur_e, ur_o]; omega)) only [↓reduceIte, iv_add, iv_sub, iv_mul, iv_neg, iv_ltT, iv_ltF, iv_leT, iv_leF, iv_eqT, iv_eqF, iv_div, iv_mod, ↓bnI_s, ↓bnV_s, ↓bnJ_s, ↓bnR_s, rt_e, rt_0, rt_bz, sv_s, sv_o, ur_s, ur_e, ur_o, bz_T, bz_F, nat_eqF, Nat.reduceAdd, ↓q_Reader_number, ↓gR_424_0 F, ↓gR_419_3 F, ↓gI_424_8 F, ↓gI_424_9 F, ↓pI_424_8 F, ↓gd_424 F, il_0, il_1, il_2, il_3, il_4, il_8, il_9, il_20, il_38, h8, c2, y_get (s_422 F), rd_in, hv, kd, wi, h9]
theorem z_numout (F : Fix z) (S : SO s) (C : Cs V s) (h8 : V 424 8 = i) (h9 : V 424 9 = 0) (hi' : 0 ≤ i ∧ i ≤ sM s) (hk : sK s i = 38) (hb : ¬ (lo ≤ sV s i ∧ sV s i ≤ hi)) (hr : 0 ≤ lo ∧ lo ≤ 10000 ∧ 0 ≤ hi ∧ hi ≤ 10000) : cA m_Reader_number [.ref 424, .int (iv lo), .int (iv hi)] (em V J z) = some (.int (iv (sV s i)), em (sv (sv V 424 9 2) 424 10 (sP s i)) J z) := by
  have fl := z_fail (J := J) (f := 2) F S C h8 h9 hi'
  have vr := (S.rg hi'.1 hi'.2).2.2.2
  have kd := z_kind (J := J) F S C h8 hi'
  rw [hk] at kd
  have S1 := S.1
  have wi := y_within (v := sV s i) (lo := lo) (hi := hi) (h := em V J z) (by omega)
  rw [bz_F hb] at wi
  have c2 := C.2.1
  simp (disch := first | decide | omega | (simp (disch := first | decide | omega) only [sv_s, sv_o, ur_s, ur_e, ur_o]; omega)) only [↓reduceIte, iv_add, iv_sub, iv_mul, iv_neg, iv_ltT, iv_ltF, iv_leT, iv_leF, iv_eqT, iv_eqF, iv_div, iv_mod, ↓bnI_s, ↓bnV_s, ↓bnJ_s, ↓bnR_s, rt_e, rt_0, rt_bz, sv_s, sv_o, ur_s, ur_e, ur_o, bz_T, bz_F, nat_eqF, Nat.reduceAdd, ↓q_Reader_number, ↓gR_424_0 F, ↓gR_419_3 F, ↓gI_424_8 F, ↓gI_424_9 F, ↓pI_424_8 F, ↓gd_424 F, il_0, il_1, il_2, il_3, il_4, il_8, il_9, il_20, il_38, h8, c2, y_get (s_422 F), rd_in, kd, wi, fl]
theorem z_numno (F : Fix z) (S : SO s) (C : Cs V s) (h8 : V 424 8 = i) (h9 : V 424 9 = 0) (hi' : 0 ≤ i ∧ i ≤ sM s) (hk : sK s i ≠ 38) : cA m_Reader_number [.ref 424, .int (iv lo), .int (iv hi)] (em V J z) = some (.int (iv (sV s i)), em (sv (sv V 424 9 1) 424 10 (sP s i)) J z) := by
  have fl := z_fail (J := J) (f := 1) F S C h8 h9 hi'
  have kr := (S.rg hi'.1 hi'.2).2.2.1
  have kd := z_kind (J := J) F S C h8 hi'
  have S1 := S.1
  have c2 := C.2.1
  have hk' : sK s i < 38 ∨ 38 < sK s i := by omega
  generalize sK s i = kk at *
  simp (disch := first | decide | omega | (simp (disch := first | decide | omega) only [sv_s, sv_o, ur_s, ur_e, ur_o]; omega)) only [↓reduceIte, iv_add, iv_sub, iv_mul, iv_neg, iv_ltT, iv_ltF, iv_leT, iv_leF, iv_eqT, iv_eqF, iv_div, iv_mod, ↓bnI_s, ↓bnV_s, ↓bnJ_s, ↓bnR_s, rt_e, rt_0, rt_bz, sv_s, sv_o, ur_s, ur_e, ur_o, bz_T, bz_F, nat_eqF, Nat.reduceAdd, ↓q_Reader_number, ↓gR_424_0 F, ↓gR_419_3 F, ↓gI_424_8 F, ↓gI_424_9 F, ↓pI_424_8 F, ↓gd_424 F, il_0, il_1, il_2, il_3, il_4, il_8, il_9, il_20, il_38, h8, c2, y_get (s_422 F), rd_in, kd, fl]
theorem Cc.at8 (P : Cc V s i n c ra ba) : Cc (sv V 424 8 j) s j n c ra ba := by
  obtain ⟨p1, p2, p3, p4, p5, p6, p7⟩ := P
  exact ⟨frC.w4.cs p1, by simp (disch := first | decide | omega | (simp (disch := first | decide | omega) only [sv_s, sv_o, ur_s, ur_e, ur_o]; omega)) only [↓reduceIte, iv_add, iv_sub, iv_mul, iv_neg, iv_ltT, iv_ltF, iv_leT, iv_leF, iv_eqT, iv_eqF, iv_div, iv_mod, ↓bnI_s, ↓bnV_s, ↓bnJ_s, ↓bnR_s, rt_e, rt_0, rt_bz, sv_s, sv_o, ur_s, ur_e, ur_o, bz_T, bz_F, nat_eqF, Nat.reduceAdd], by simp (disch := first | decide | omega | (simp (disch := first | decide | omega) only [sv_s, sv_o, ur_s, ur_e, ur_o]; omega)) only [↓reduceIte, iv_add, iv_sub, iv_mul, iv_neg, iv_ltT, iv_ltF, iv_leT, iv_leF, iv_eqT, iv_eqF, iv_div, iv_mod, ↓bnI_s, ↓bnV_s, ↓bnJ_s, ↓bnR_s, rt_e, rt_0, rt_bz, sv_s, sv_o, ur_s, ur_e, ur_o, bz_T, bz_F, nat_eqF, Nat.reduceAdd, p3], by simp (disch := first | decide | omega | (simp (disch := first | decide | omega) only [sv_s, sv_o, ur_s, ur_e, ur_o]; omega)) only [↓reduceIte, iv_add, iv_sub, iv_mul, iv_neg, iv_ltT, iv_ltF, iv_leT, iv_leF, iv_eqT, iv_eqF, iv_div, iv_mod, ↓bnI_s, ↓bnV_s, ↓bnJ_s, ↓bnR_s, rt_e, rt_0, rt_bz, sv_s, sv_o, ur_s, ur_e, ur_o, bz_T, bz_F, nat_eqF, Nat.reduceAdd, p4], by simp (disch := first | decide | omega | (simp (disch := first | decide | omega) only [sv_s, sv_o, ur_s, ur_e, ur_o]; omega)) only [↓reduceIte, iv_add, iv_sub, iv_mul, iv_neg, iv_ltT, iv_ltF, iv_leT, iv_leF, iv_eqT, iv_eqF, iv_div, iv_mod, ↓bnI_s, ↓bnV_s, ↓bnJ_s, ↓bnR_s, rt_e, rt_0, rt_bz, sv_s, sv_o, ur_s, ur_e, ur_o, bz_T, bz_F, nat_eqF, Nat.reduceAdd, p5], by simp (disch := first | decide | omega | (simp (disch := first | decide | omega) only [sv_s, sv_o, ur_s, ur_e, ur_o]; omega)) only [↓reduceIte, iv_add, iv_sub, iv_mul, iv_neg, iv_ltT, iv_ltF, iv_leT, iv_leF, iv_eqT, iv_eqF, iv_div, iv_mod, ↓bnI_s, ↓bnV_s, ↓bnJ_s, ↓bnR_s, rt_e, rt_0, rt_bz, sv_s, sv_o, ur_s, ur_e, ur_o, bz_T, bz_F, nat_eqF, Nat.reduceAdd, p6], by simp (disch := first | decide | omega | (simp (disch := first | decide | omega) only [sv_s, sv_o, ur_s, ur_e, ur_o]; omega)) only [↓reduceIte, iv_add, iv_sub, iv_mul, iv_neg, iv_ltT, iv_ltF, iv_leT, iv_leF, iv_eqT, iv_eqF, iv_div, iv_mod, ↓bnI_s, ↓bnV_s, ↓bnJ_s, ↓bnR_s, rt_e, rt_0, rt_bz, sv_s, sv_o, ur_s, ur_e, ur_o, bz_T, bz_F, nat_eqF, Nat.reduceAdd, p7, and_self]⟩
/-- the last of a clause, in the class -/
theorem z_end (F : Fix z) (S : SO s) (P : Cc V s i n c ra ba) (hi' : 0 ≤ i ∧ i ≤ sM s) (hn : 0 ≤ n ∧ n ≤ 24) (hc : 0 ≤ c ∧ c ≤ 301) : (sK s i = 35 → rX m_Reader_readClause m_Reader_readClause 161 [.ref 424, .int (iv k), .int (iv a), .int (iv b)] [] (em V J z) = some (.null, em (fiC (sv V 424 8 (i + 1)) n k a b) J z) ∧ Cc (fiC (sv V 424 8 (i + 1)) n k a b) s (i + 1) (n + 1) c ra ba ∧ frC V (fiC (sv V 424 8 (i + 1)) n k a b)) ∧ (sK s i ≠ 35 → ∃ V', rX m_Reader_readClause m_Reader_readClause 161 [.ref 424, .int (iv k), .int (iv a), .int (iv b)] [] (em V J z) = some (.null, em V' J z) ∧ Cd V' s 1 (sP s i) ∧ frC V V') := by
  have P0 := P
  obtain ⟨p1, p2, p3, p4, p5, p6, p7⟩ := P0
  constructor
  · intro k35
    have ex := z_exp1 (J := J) F S p1 p2 p3 hi' k35
    have e := y_161 (J := J) (k := k) (a := a) (b := b) (n := n) F ex (by simp (disch := first | decide | omega | (simp (disch := first | decide | omega) only [sv_s, sv_o, ur_s, ur_e, ur_o]; omega)) only [↓reduceIte, iv_add, iv_sub, iv_mul, iv_neg, iv_ltT, iv_ltF, iv_leT, iv_leF, iv_eqT, iv_eqF, iv_div, iv_mod, ↓bnI_s, ↓bnV_s, ↓bnJ_s, ↓bnR_s, rt_e, rt_0, rt_bz, sv_s, sv_o, ur_s, ur_e, ur_o, bz_T, bz_F, nat_eqF, Nat.reduceAdd, p4]) (by omega)
    have Q : Cc (sv V 424 8 (i + 1)) s (i + 1) n c ra ba := P.at8
    obtain ⟨q1, q2, q3, q4, q5, q6, q7⟩ := Q
    refine ⟨e, ⟨fiC_fr.cs q1, (fiC_4 (by decide)).trans q2, (fiC_4 (by decide)).trans q3, by unfold fiC; simp (disch := first | decide | omega | (simp (disch := first | decide | omega) only [sv_s, sv_o, ur_s, ur_e, ur_o]; omega)) only [↓reduceIte, iv_add, iv_sub, iv_mul, iv_neg, iv_ltT, iv_ltF, iv_leT, iv_leF, iv_eqT, iv_eqF, iv_div, iv_mod, ↓bnI_s, ↓bnV_s, ↓bnJ_s, ↓bnR_s, rt_e, rt_0, rt_bz, sv_s, sv_o, ur_s, ur_e, ur_o, bz_T, bz_F, nat_eqF, Nat.reduceAdd], (fiC_4 (by decide)).trans q5, (fiC_4 (by decide)).trans q6, ⟨(fiC_4 (by decide)).trans q7.1, (fiC_4 (by decide)).trans q7.2⟩⟩, frC.w4.tr fiC_fr⟩
  · intro k35
    have ex := z_exp0 (J := J) F S p1 p2 p3 hi' k35 (by decide)
    have e := y_161 (J := J) (k := k) (a := a) (b := b) (n := n) F ex (by simp (disch := first | decide | omega | (simp (disch := first | decide | omega) only [sv_s, sv_o, ur_s, ur_e, ur_o]; omega)) only [↓reduceIte, iv_add, iv_sub, iv_mul, iv_neg, iv_ltT, iv_ltF, iv_leT, iv_leF, iv_eqT, iv_eqF, iv_div, iv_mod, ↓bnI_s, ↓bnV_s, ↓bnJ_s, ↓bnR_s, rt_e, rt_0, rt_bz, sv_s, sv_o, ur_s, ur_e, ur_o, bz_T, bz_F, nat_eqF, Nat.reduceAdd, p4]) (by omega)
    exact ⟨_, e, (z_cd p1 p2 (by omega) hi' (by decide)).fin_, (frC.w4.tr frC.w4).tr fiC_fr⟩
theorem z_dead (F : Fix z) (D : Cd V s f g) (hn : V 424 3 = n) (nr : 0 ≤ n ∧ n ≤ 30) : ∃ V', rX m_Reader_readClause m_Reader_readClause 161 [.ref 424, .int (iv k), .int (iv a), .int (iv b)] [] (em V J z) = some (.null, em V' J z) ∧ Cd V' s f g ∧ frC V V' := ⟨_, y_161 F (y_expectd F D) hn nr, D.fin_, fiC_fr⟩
/-- a clause with one number -/
theorem cl_1 (F : Fix z) (G : Fix zm) (S : SO s) (P : Cc V s i n c ra ba) (hi' : 0 ≤ i ∧ i ≤ sM s) (hr : -1 ≤ ra ∧ ra ≤ 400 ∧ -1 ≤ ba ∧ ba ≤ 400) (hc : 0 ≤ c ∧ c ≤ i) (hn : 0 ≤ n ∧ n < 24) (hk : sK s i = k) (hσ : srt k = σ ∧ 2 ≤ σ) (hlo : 0 ≤ lo ∧ lo ≤ hi ∧ hi ≤ 99)
    (hbC : ∀ V : Vm, cA m_Reader_readClause [.ref 424, .int (iv k)] (em V J z) = bnI (cA m_Reader_number [.ref 424, .int (iv lo), .int (iv hi)] (em V J z)) fun w h => rX m_Reader_readClause m_Reader_readClause 161 [.ref 424, .int (iv k), .int w, .int (iv 0)] [] h)
    (hbM : ∀ (U K U2 K2 : Vm) (x r : Int), cA m_M_figure [.ref 435, .int (iv (x + 1)), .int (iv lo), .int (iv hi)] (em U K zm) = some (.int (iv r), em U2 K2 zm) → cA m_M_body [.ref 435, .int (iv σ), .int (iv x)] (em U K zm) = some (.int (iv r), em U2 K2 zm))
    (hcl : ∀ v y, lo ≤ v → v ≤ hi → CLR k v 0 σ v y) : ∃ V1, (bnI (cA m_Reader_openClause [.ref 424] (em V J z)) fun w5 h4 => cA m_Reader_readClause [.ref 424, .int w5] h4) = some (.null, em V1 J z) ∧ frC V V1 ∧ ClS zm s V V1 i n c ra ba := by
  have S1 := S.1
  have S2 := S.2.1
  have s01 := srt_01 (k := k)
  have nag : ¬ ag (sK s i) ra ba := by unfold ag; omega
  have op := (y_open (J := J) F S P hi' hr hc (by omega)).2.2.2 (by rw [hk]; omega) nag hn.2
  have im : i < sM s := S.lt hi'.1 hi'.2 (by
    rw [hk]; intro q
    rw [q] at hσ
    have : srt 40 = -1 := rfl
    omega)
  rw [hk] at op
  rw [op, bnI_s, hbC]
  have Q : Cc (sv V 424 8 (i + 1)) s (i + 1) n c ra ba := P.at8
  obtain ⟨q1, q2, q3, q4, q5, q6, q7⟩ := Q
  have Q : Cc (sv V 424 8 (i + 1)) s (i + 1) n c ra ba := P.at8
  -- the model up to its number
  have mo : ∀ U K w on, Uc U K s i n w on → Rt V U s i n c w ra ba on → ∃ U1 K1, cA m_M_clause [.ref 435] (em U K zm) = cB σ (sX s + 1 + 3 * n) (em U1 K1 zm) ∧ Mt U1 K1 s (i + 1) ∧ U1 435 19 = on ∧ U1 435 12 = sX s ∧ U1 435 13 = w ∧ U1 438 (sX s) = n ∧ U1 438 (sX s + 1 + 3 * n) = σ ∧ (∀ q, q ≠ sX s + 1 + 3 * n → U1 438 q = U 438 q) ∧ frW s U U1 := by
    intro U K w on hu R
    have na := fun q => nag ((ag_on R _).mpr q)
    have sr := srt_rg (k := k)
    have c29 := c_29 G S hu hi' R.2.2.2.2.2.2.1 (σ := σ) ⟨by rw [hk]; exact hσ.1, by omega⟩ (by omega)
    obtain ⟨U1, K1, m1, m2, m3, m4, m5, m6, m7, m8, m9, m10⟩ := c_go G S hu ⟨hi'.1, im⟩ R.2.2.2.2.2.2.1 hn (σ := σ) (by omega) (by omega)
    rw [if_neg (by omega), if_neg (by omega)] at m4
    exact ⟨U1, K1, c29.trans m1, m2, m4, m5, m6, m7, m8, m9, m10⟩
  by_cases k38 : sK s (i + 1) = 38
  · have jm := S.lt (i := i + 1) (by omega) (by omega) (by omega)
    by_cases vb : lo ≤ sV s (i + 1) ∧ sV s (i + 1) ≤ hi
    · have nu := z_numok (J := J) F S q1 q2 q3 (by omega) k38 rfl vb (by omega)
      rw [nu, bnI_s]
      have Q2 : Cc (sv (sv V 424 8 (i + 1)) 424 8 (i + 1 + 1)) s (i + 1 + 1) n c ra ba := Q.at8
      obtain ⟨ze, zf⟩ := z_end (J := J) (k := k) (a := sV s (i + 1)) (b := 0) F S Q2 (by omega) (by omega) (by omega)
      by_cases k35 : sK s (i + 1 + 1) = 35
      · obtain ⟨z1, z2, z3⟩ := ze k35
        have jm2 := S.lt (i := i + 1 + 1) (by omega) (by omega) (by omega)
        obtain ⟨f1, f2, f3, f4⟩ := fiC_in (V := sv (sv (sv V 424 8 (i + 1)) 424 8 (i + 1 + 1)) 424 8 (i + 1 + 1 + 1)) (n := n) (k := k) (a := sV s (i + 1)) (b := 0) hn
        refine ⟨_, z1, (frC.w4.tr frC.w4).tr z3, Or.inl ⟨i + 1 + 1 + 1, c, ra, ba, z2, by omega, hn.2, by omega, hr, fun U K w on hu R => ?_⟩⟩
        obtain ⟨U1, K1, m1, m2, m4, m5, m6, m7, m8, m9, m10⟩ := mo U K w on hu R
        obtain ⟨U2, K2, b1, b2, b3, b4, b5, b6⟩ := y_figok (z := zm) G S m2 ⟨by omega, jm⟩ k38 rfl vb (by omega) (x := sX s + 1 + 3 * n + 1) (by omega)
        have hb := hbM U1 K1 U2 K2 (sX s + 1 + 3 * n) 0 b1
        obtain ⟨U3, K3, d1, d2, d3, d4, d5, d6⟩ := (c_fin G S b2 (by omega) (by rw [b4 12 (by omega)]; exact m5) (by rw [b6 _ (by omega)]; exact m7) hn hb).2 k35
        have e3 : ∀ q, q ≠ sX s → q ≠ sX s + 1 + 3 * n + 1 → q ≠ sX s + 1 + 3 * n → U3 438 q = U 438 q := fun q h1 h2 h3 => by rw [d6 q h1, b6 q h2, m9 q h3]
        have v1 : U3 438 (sX s + 1 + 3 * n) = σ := by rw [d6 _ (by omega), b6 _ (by omega), m8]
        have v2 : U3 438 (sX s + 1 + 3 * n + 1) = sV s (i + 1) := by rw [d6 _ (by omega), b5]
        refine ⟨U3, K3, w, on, m1.trans d1, ⟨d2, by rw [d4 12 (by omega), b4 12 (by omega), m5], d5, by rw [d4 13 (by omega), b4 13 (by omega), m6], by rw [d4 19 (by omega), b4 19 (by omega), m4]⟩, ?_, ?_⟩
        · exact R.plain (σ := σ) hn.2 (fun q hq => by rw [f4 q hq]; simp (disch := first | decide | omega | (simp (disch := first | decide | omega) only [sv_s, sv_o, ur_s, ur_e, ur_o]; omega)) only [↓reduceIte, iv_add, iv_sub, iv_mul, iv_neg, iv_ltT, iv_ltF, iv_leT, iv_leF, iv_eqT, iv_eqF, iv_div, iv_mod, ↓bnI_s, ↓bnV_s, ↓bnJ_s, ↓bnR_s, rt_e, rt_0, rt_bz, sv_s, sv_o, ur_s, ur_e, ur_o, bz_T, bz_F, nat_eqF, Nat.reduceAdd]) (by rw [fiC_o (by decide) (by decide)]; simp (disch := first | decide | omega | (simp (disch := first | decide | omega) only [sv_s, sv_o, ur_s, ur_e, ur_o]; omega)) only [↓reduceIte, iv_add, iv_sub, iv_mul, iv_neg, iv_ltT, iv_ltF, iv_leT, iv_leF, iv_eqT, iv_eqF, iv_div, iv_mod, ↓bnI_s, ↓bnV_s, ↓bnJ_s, ↓bnR_s, rt_e, rt_0, rt_bz, sv_s, sv_o, ur_s, ur_e, ur_o, bz_T, bz_F, nat_eqF, Nat.reduceAdd]) (fun q q0 q1 => e3 q (by omega) (by omega) (by omega)) (fun q q0 => e3 q (by omega) (by omega) (by omega)) v1 (by omega) (by rw [f1, f2, f3, v1, v2]; exact hcl _ _ vb.1 vb.2) (by omega)
        · refine m10.tr ⟨fun a h1 h2 _ => (d3 a h1 h2).trans (b3 a h1 h2), fun q h1 h2 => (d4 q h1).trans (b4 q h1), fun q hq => ?_⟩
          rw [d6 q (by omega), b6 q (by omega)]
      · obtain ⟨V', z1, z2, z3⟩ := zf k35
        refine ⟨V', z1, (frC.w4.tr frC.w4).tr z3, Or.inr ⟨i + 1 + 1, 1, z2, by omega, fun U K w on hu R => ?_⟩⟩
        obtain ⟨U1, K1, m1, m2, m4, m5, m6, m7, m8, m9, m10⟩ := mo U K w on hu R
        obtain ⟨U2, K2, b1, b2, b3, b4, b5, b6⟩ := y_figok (z := zm) G S m2 ⟨by omega, jm⟩ k38 rfl vb (by omega) (x := sX s + 1 + 3 * n + 1) (by omega)
        have hb := hbM U1 K1 U2 K2 (sX s + 1 + 3 * n) 0 b1
        have d1 := (c_fin G S b2 (by omega) (by rw [b4 12 (by omega)]; exact m5) (by rw [b6 _ (by omega)]; exact m7) hn hb).1 k35
        refine ⟨_, _, m1.trans d1, by simp (disch := first | decide | omega | (simp (disch := first | decide | omega) only [sv_s, sv_o, ur_s, ur_e, ur_o]; omega)) only [↓reduceIte, iv_add, iv_sub, iv_mul, iv_neg, iv_ltT, iv_ltF, iv_leT, iv_leF, iv_eqT, iv_eqF, iv_div, iv_mod, ↓bnI_s, ↓bnV_s, ↓bnJ_s, ↓bnR_s, rt_e, rt_0, rt_bz, sv_s, sv_o, ur_s, ur_e, ur_o, bz_T, bz_F, nat_eqF, Nat.reduceAdd]; exact b2.2.2.1, m10.tr (show frW s U1 _ from ?_)⟩
        exact (show frW s U1 U2 from ⟨fun a h1 h2 _ => b3 a h1 h2, fun q h1 h2 => b4 q h1, fun q hq => b6 q (by omega)⟩).tr (frW.w8 (by omega))
    · have nu := z_numout (J := J) F S q1 q2 q3 (by omega) k38 vb (by omega)
      rw [nu, bnI_s]
      obtain ⟨V', z1, z2, z3⟩ := z_dead (J := J) (k := k) (a := sV s (i + 1)) (b := 0) (n := n) F (z_cd (f := 2) q1 q2 (by omega) (by omega) (by decide)) (by simp (disch := first | decide | omega | (simp (disch := first | decide | omega) only [sv_s, sv_o, ur_s, ur_e, ur_o]; omega)) only [↓reduceIte, iv_add, iv_sub, iv_mul, iv_neg, iv_ltT, iv_ltF, iv_leT, iv_leF, iv_eqT, iv_eqF, iv_div, iv_mod, ↓bnI_s, ↓bnV_s, ↓bnJ_s, ↓bnR_s, rt_e, rt_0, rt_bz, sv_s, sv_o, ur_s, ur_e, ur_o, bz_T, bz_F, nat_eqF, Nat.reduceAdd]; exact P.2.2.2.1) (by omega)
      refine ⟨V', z1, ((frC.w4.tr frC.w4).tr frC.w4).tr z3, Or.inr ⟨i + 1, 2, z2, by omega, fun U K w on hu R => ?_⟩⟩
      obtain ⟨U1, K1, m1, m2, m4, m5, m6, m7, m8, m9, m10⟩ := mo U K w on hu R
      have b1 := y_figout (z := zm) (x := sX s + 1 + 3 * n + 1) G m2 k38 vb (by omega)
      exact ⟨U1, K1, m1.trans (c_bad (hbM U1 K1 U1 K1 _ 2 b1) (by decide)), m2.2.2.1, m10⟩
  · have nu := z_numno (J := J) (lo := lo) (hi := hi) F S q1 q2 q3 (by omega) k38
    rw [nu, bnI_s]
    obtain ⟨V', z1, z2, z3⟩ := z_dead (J := J) (k := k) (a := sV s (i + 1)) (b := 0) (n := n) F (z_cd (f := 1) q1 q2 (by omega) (by omega) (by decide)) (by simp (disch := first | decide | omega | (simp (disch := first | decide | omega) only [sv_s, sv_o, ur_s, ur_e, ur_o]; omega)) only [↓reduceIte, iv_add, iv_sub, iv_mul, iv_neg, iv_ltT, iv_ltF, iv_leT, iv_leF, iv_eqT, iv_eqF, iv_div, iv_mod, ↓bnI_s, ↓bnV_s, ↓bnJ_s, ↓bnR_s, rt_e, rt_0, rt_bz, sv_s, sv_o, ur_s, ur_e, ur_o, bz_T, bz_F, nat_eqF, Nat.reduceAdd]; exact P.2.2.2.1) (by omega)
    refine ⟨V', z1, ((frC.w4.tr frC.w4).tr frC.w4).tr z3, Or.inr ⟨i + 1, 1, z2, by omega, fun U K w on hu R => ?_⟩⟩
    obtain ⟨U1, K1, m1, m2, m4, m5, m6, m7, m8, m9, m10⟩ := mo U K w on hu R
    have b1 := y_figno (z := zm) (x := sX s + 1 + 3 * n + 1) (lo := lo) (hi := hi) G m2 k38
    exact ⟨U1, K1, m1.trans (c_bad (hbM U1 K1 U1 K1 _ 1 b1) (by decide)), m2.2.2.1, m10⟩
end
