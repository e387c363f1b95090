/-! THE READING: clauses with two numbers, laws, every clause -/
section
variable {V V0 W J : Vm} {z zm : Zz} {s : Sm} {i j n c ra ba k a b f g lo hi lo2 hi2 h1 v w on σ x r y : Int} {U U' U1 U2 U3 U4 K K1 K2 K3 K4 : Vm}
theorem mo_go (F : Fix z) (S : SO s) (hi' : 0 ≤ i ∧ i < sM s) (hn : 0 ≤ n ∧ n < 24) (hk : sK s i = k) (hσ : srt k = σ ∧ 0 ≤ σ) (nag : ¬ ag (sK s i) ra ba) (hu : Uc U K s i n w on) (R : Rt V U s i n c w ra ba on) : ∃ U1 K1, cA m_M_clause [.ref 435] (em U K z) = cB σ (sX s + 1 + 3 * n) (em U1 K1 z) ∧ Mt U1 K1 s (i + 1) ∧ U1 435 14 = σ ∧ U1 435 19 = (if σ = 0 then on + 1 else if σ = 1 then on + 2 else on) ∧ U1 435 12 = sX s ∧ U1 435 13 = w ∧ U1 438 (sX s) = n ∧ U1 438 (sX s + 1 + 3 * n) = σ ∧ (∀ q, q ≠ sX s + 1 + 3 * n → U1 438 q = U 438 q) ∧ frW s U U1 := by
  have s01 := srt_01 (k := k)
  have na := fun q => nag ((ag_on R _).mpr q)
  have sr := srt_rg (k := k)
  rw [hk] at na
  have na' : ¬ ((σ = 0 ∧ on % 2 = 1) ∨ (σ = 1 ∧ on / 2 = 1)) := fun q => na (by rw [hσ.1]; exact q)
  have c29 := c_29 F S hu (by omega) R.2.2.2.2.2.2.1 (σ := σ) ⟨by rw [hk]; exact hσ.1, by omega⟩ na'
  obtain ⟨U1, K1, m1, m2⟩ := c_go F S hu hi' R.2.2.2.2.2.2.1 hn (σ := σ) (by omega) na'
  exact ⟨U1, K1, c29.trans m1, m2⟩
/-- a clause with two numbers -/
theorem cl_2 (F : Fix z) (G : Fix zm) (S : SO s) (P : Cc V s i n c ra ba) (hi' : 0 ≤ i ∧ i ≤ sM s) (hr : -1 ≤ ra ∧ ra ≤ 400 ∧ -1 ≤ ba ∧ ba ≤ 400) (hc : 0 ≤ c ∧ c ≤ i) (hn : 0 ≤ n ∧ n < 24) (hk : sK s i = k) (hσ : srt k = σ ∧ 2 ≤ σ) (hlo : 0 ≤ h1 ∧ h1 ≤ 99 ∧ 0 ≤ lo2 ∧ lo2 ≤ hi2 ∧ hi2 ≤ 99) {wd : Nat} (hwd : 0 < wd ∧ wd < 25)
    (hbC : ∀ V : Vm, cA m_Reader_readClause [.ref 424, .int (iv k)] (em V J z) = bnI (cA m_Reader_number [.ref 424, .int (iv 0), .int (iv h1)] (em V J z)) fun a h => bnV (cA m_Reader_expect [.ref 424, .int (iv wd)] h) fun h => bnI (cA m_Reader_number [.ref 424, .int (iv lo2), .int (iv hi2)] h) fun b h => rX m_Reader_readClause m_Reader_readClause 161 [.ref 424, .int (iv k), .int a, .int b] [] h)
    (hb1 : ∀ (U K U2 K2 : Vm) (x r : Int), cA m_M_figure [.ref 435, .int (iv (x + 1)), .int (iv 0), .int (iv h1)] (em U K zm) = some (.int (iv r), em U2 K2 zm) → 1 ≤ r → r ≤ 6 → cA m_M_body [.ref 435, .int (iv σ), .int (iv x)] (em U K zm) = some (.int (iv r), em U2 K2 zm))
    (hb2 : ∀ (U K U2 K2 : Vm) (x : Int), cA m_M_figure [.ref 435, .int (iv (x + 1)), .int (iv 0), .int (iv h1)] (em U K zm) = some (.int (iv 0), em U2 K2 zm) → cA m_M_isWord [.ref 435, .long (jv (wn wd))] (em U2 K2 zm) = some (.int (iv 0), em U2 K2 zm) → cA m_M_body [.ref 435, .int (iv σ), .int (iv x)] (em U K zm) = some (.int (iv 1), em U2 K2 zm))
    (hb3 : ∀ (U K U2 K2 U3 K3 U4 K4 : Vm) (x r : Int), cA m_M_figure [.ref 435, .int (iv (x + 1)), .int (iv 0), .int (iv h1)] (em U K zm) = some (.int (iv 0), em U2 K2 zm) → cA m_M_isWord [.ref 435, .long (jv (wn wd))] (em U2 K2 zm) = some (.int (iv 1), em U2 K2 zm) → cA m_M_nextToken [.ref 435] (em U2 K2 zm) = some (.null, em U3 K3 zm) → cA m_M_figure [.ref 435, .int (iv (x + 2)), .int (iv lo2), .int (iv hi2)] (em U3 K3 zm) = some (.int (iv r), em U4 K4 zm) → cA m_M_body [.ref 435, .int (iv σ), .int (iv x)] (em U K zm) = some (.int (iv r), em U4 K4 zm))
    (hcl : ∀ a b, 0 ≤ a → a ≤ h1 → lo2 ≤ b → b ≤ hi2 → CLR k a b σ a b) : ∃ V1, (bnI (cA m_Reader_openClause [.ref 424] (em V J z)) fun w5 h4 => cA m_Reader_readClause [.ref 424, .int w5] h4) = some (.null, em V1 J z) ∧ frC V V1 ∧ ClS zm s V V1 i n c ra ba := by
  have S1 := S.1
  have S2 := S.2.1
  have s01 := srt_01 (k := k)
  have nag : ¬ ag (sK s i) ra ba := by unfold ag; omega
  have op := (y_open (J := J) F S P hi' hr hc (by omega)).2.2.2 (by rw [hk]; omega) nag hn.2
  have im : i < sM s := S.lt hi'.1 hi'.2 (by
    rw [hk]; intro q
    rw [q] at hσ
    have : srt 40 = -1 := rfl
    omega)
  rw [hk] at op
  rw [op, bnI_s, hbC]
  have Q : Cc (sv V 424 8 (i + 1)) s (i + 1) n c ra ba := P.at8
  obtain ⟨q1, q2, q3, q4, q5, q6, q7⟩ := Q
  have Q : Cc (sv V 424 8 (i + 1)) s (i + 1) n c ra ba := P.at8
  have ds := fun {D : Vm} {ff gg : Int} (dd : Cd D s ff gg) (hn3 : D 424 3 = n) => ((y_numd (J := J) F S dd (lo := lo2) (hi := hi2) (by omega)))
  -- the rest behind a fault
  have rest : ∀ (D : Vm) (ff gg : Int), Cd D s ff gg → D 424 3 = n → ∀ a : Int, ∃ V', (bnV (cA m_Reader_expect [.ref 424, .int (iv wd)] (em D J z)) fun h => bnI (cA m_Reader_number [.ref 424, .int (iv lo2), .int (iv hi2)] h) fun b h => rX m_Reader_readClause m_Reader_readClause 161 [.ref 424, .int (iv k), .int (iv a), .int b] [] h) = some (.null, em V' J z) ∧ Cd V' s ff gg ∧ frC D V' := by
    intro D ff gg dd hn3 a
    obtain ⟨y, hy⟩ := ds dd hn3
    obtain ⟨V', z1, z2, z3⟩ := z_dead (J := J) (k := k) (a := a) (b := y) (n := n) F dd hn3 (by omega)
    exact ⟨V', by rw [y_expectd F dd, bnV_s, hy, bnI_s]; exact z1, z2, z3⟩
  have mo := fun {U K : Vm} {w on : Int} (hu : Uc U K s i n w on) (R : Rt V U s i n c w ra ba on) => mo_go G S ⟨hi'.1, im⟩ hn hk (σ := σ) ⟨hσ.1, by omega⟩ nag hu R
  by_cases k38 : sK s (i + 1) = 38
  · have jm := S.lt (i := i + 1) (by omega) (by omega) (by omega)
    by_cases vb : 0 ≤ sV s (i + 1) ∧ sV s (i + 1) ≤ h1
    · have nu := z_numok (J := J) F S q1 q2 q3 (by omega) k38 rfl vb (by omega)
      rw [nu, bnI_s]
      have Q2 : Cc (sv (sv V 424 8 (i + 1)) 424 8 (i + 1 + 1)) s (i + 1 + 1) n c ra ba := Q.at8
      obtain ⟨q21, q22, q23, q24, q25, q26, q27⟩ := Q2
      have Q2 : Cc (sv (sv V 424 8 (i + 1)) 424 8 (i + 1 + 1)) s (i + 1 + 1) n c ra ba := Q.at8
      have mo1 := fun {U K : Vm} {w on : Int} (hu : Uc U K s i n w on) (R : Rt V U s i n c w ra ba on) (U1 K1 : Vm) (m2 : Mt U1 K1 s (i + 1)) => y_figok (z := zm) G S m2 ⟨by omega, jm⟩ k38 rfl vb (by omega) (x := sX s + 1 + 3 * n + 1) (by omega)
      by_cases kw : sK s (i + 1 + 1) = wd
      · have jm2 := S.lt (i := i + 1 + 1) (by omega) (by omega) (by omega)
        have ex := z_exp1 (J := J) F S q21 q22 q23 (by omega) kw
        rw [ex, bnV_s]
        have Q3 : Cc (sv (sv (sv V 424 8 (i + 1)) 424 8 (i + 1 + 1)) 424 8 (i + 1 + 1 + 1)) s (i + 1 + 1 + 1) n c ra ba := Q2.at8
        obtain ⟨q31, q32, q33, q34, q35, q36, q37⟩ := Q3
        have Q3 : Cc (sv (sv (sv V 424 8 (i + 1)) 424 8 (i + 1 + 1)) 424 8 (i + 1 + 1 + 1)) s (i + 1 + 1 + 1) n c ra ba := Q2.at8
        have fr3 : frC V (sv (sv (sv V 424 8 (i + 1)) 424 8 (i + 1 + 1)) 424 8 (i + 1 + 1 + 1)) := (frC.w4.tr frC.w4).tr frC.w4
        -- the model up to its second number
        have mo2 : ∀ U K w on, Uc U K s i n w on → Rt V U s i n c w ra ba on → ∃ U1 K1 U2 K2 U3 K3, cA m_M_clause [.ref 435] (em U K zm) = cB σ (sX s + 1 + 3 * n) (em U1 K1 zm) ∧ cA m_M_figure [.ref 435, .int (iv (sX s + 1 + 3 * n + 1)), .int (iv 0), .int (iv h1)] (em U1 K1 zm) = some (.int (iv 0), em U2 K2 zm) ∧ cA m_M_isWord [.ref 435, .long (jv (wn wd))] (em U2 K2 zm) = some (.int (iv 1), em U2 K2 zm) ∧ cA m_M_nextToken [.ref 435] (em U2 K2 zm) = some (.null, em U3 K3 zm) ∧ Mt U3 K3 s (i + 1 + 1 + 1) ∧ U3 435 19 = on ∧ U3 435 12 = sX s ∧ U3 435 13 = w ∧ U3 438 (sX s) = n ∧ U3 438 (sX s + 1 + 3 * n) = σ ∧ U3 438 (sX s + 1 + 3 * n + 1) = sV s (i + 1) ∧ (∀ q, q ≠ sX s + 1 + 3 * n → q ≠ sX s + 1 + 3 * n + 1 → U3 438 q = U 438 q) ∧ frW s U U3 := by
          intro U K w on hu R
          obtain ⟨U1, K1, m1, m2, m3, m4, m5, m6, m7, m8, m9, m10⟩ := mo hu R
          obtain ⟨U2, K2, b1, b2, b3, b4, b5, b6⟩ := mo1 hu R U1 K1 m2
          have iw := y_isWord (z := zm) G b2.2 hwd.1 hwd.2
          rw [bz_T kw] at iw
          obtain ⟨U3, K3, d1, d2, d3⟩ := b2.nextT G S ⟨by omega, jm2⟩
          rw [if_neg (by omega), if_neg (by omega)] at m4
          have e5 : ∀ q, ¬ (7 ≤ q ∧ q ≤ 10) → U3 435 q = U1 435 q := fun q hq => (d2.2 q (by omega) (by omega) (by omega) (by omega)).trans (b4 q hq)
          have e8 : ∀ q, q ≠ sX s + 1 + 3 * n + 1 → U3 438 q = U1 438 q := fun q hq => by rw [d2.1 438 (by decide)]; exact b6 q hq
          refine ⟨U1, K1, U2, K2, U3, K3, m1, b1, iw, d1, d3, (e5 19 (by omega)).trans m4, (e5 12 (by omega)).trans m5, (e5 13 (by omega)).trans m6, (e8 _ (by omega)).trans m7, (e8 _ (by omega)).trans m8, by rw [d2.1 438 (by decide)]; exact b5, fun q h1 h2 => (e8 q h2).trans (m9 q h1), m10.tr ⟨fun a h1 h2 _ => (d2.1 a h1).trans (b3 a h1 h2), fun q h1 h2 => e5 q h1, fun q hq => e8 q (by omega)⟩⟩
        by_cases k38' : sK s (i + 1 + 1 + 1) = 38
        · have jm3 := S.lt (i := i + 1 + 1 + 1) (by omega) (by omega) (by omega)
          by_cases vb2 : lo2 ≤ sV s (i + 1 + 1 + 1) ∧ sV s (i + 1 + 1 + 1) ≤ hi2
          · have nu2 := z_numok (J := J) F S q31 q32 q33 (by omega) k38' rfl vb2 (by omega)
            rw [nu2, bnI_s]
            have Q4 : Cc (sv (sv (sv (sv V 424 8 (i + 1)) 424 8 (i + 1 + 1)) 424 8 (i + 1 + 1 + 1)) 424 8 (i + 1 + 1 + 1 + 1)) s (i + 1 + 1 + 1 + 1) n c ra ba := Q3.at8
            obtain ⟨ze, zf⟩ := z_end (J := J) (k := k) (a := sV s (i + 1)) (b := sV s (i + 1 + 1 + 1)) F S Q4 (by omega) (by omega) (by omega)
            by_cases k35 : sK s (i + 1 + 1 + 1 + 1) = 35
            · obtain ⟨z1, z2, z3⟩ := ze k35
              have jm4 := S.lt (i := i + 1 + 1 + 1 + 1) (by omega) (by omega) (by omega)
              obtain ⟨f1, f2, f3, f4⟩ := fiC_in (V := sv (sv (sv (sv (sv V 424 8 (i + 1)) 424 8 (i + 1 + 1)) 424 8 (i + 1 + 1 + 1)) 424 8 (i + 1 + 1 + 1 + 1)) 424 8 (i + 1 + 1 + 1 + 1 + 1)) (n := n) (k := k) (a := sV s (i + 1)) (b := sV s (i + 1 + 1 + 1)) hn
              refine ⟨_, z1, (fr3.tr frC.w4).tr z3, Or.inl ⟨i + 1 + 1 + 1 + 1 + 1, c, ra, ba, z2, by omega, hn.2, by omega, hr, fun U K w on hu R => ?_⟩⟩
              obtain ⟨U1, K1, U2, K2, U3, K3, m1, b1, iw, nx, m2, m4, m5, m6, m7, m8, m8', m9, m10⟩ := mo2 U K w on hu R
              obtain ⟨U4, K4, g1, g2, g3, g4, g5, g6⟩ := y_figok (z := zm) G S m2 ⟨by omega, jm3⟩ k38' rfl vb2 (by omega) (x := sX s + 1 + 3 * n + 2) (by omega)
              have hb := hb3 U1 K1 U2 K2 U3 K3 U4 K4 (sX s + 1 + 3 * n) 0 b1 iw nx g1
              obtain ⟨U5, K5, d1, d2, d3, d4, d5, d6⟩ := (c_fin G S g2 (by omega) (by rw [g4 12 (by omega)]; exact m5) (by rw [g6 _ (by omega)]; exact m7) hn hb).2 k35
              have v1 : U5 438 (sX s + 1 + 3 * n) = σ := by rw [d6 _ (by omega), g6 _ (by omega), m8]
              have v2 : U5 438 (sX s + 1 + 3 * n + 1) = sV s (i + 1) := by rw [d6 _ (by omega), g6 _ (by omega), m8']
              have v3 : U5 438 (sX s + 1 + 3 * n + 2) = sV s (i + 1 + 1 + 1) := by rw [d6 _ (by omega), g5]
              have e3 : ∀ q, q ≠ sX s → q ≠ sX s + 1 + 3 * n + 2 → q ≠ sX s + 1 + 3 * n + 1 → q ≠ sX s + 1 + 3 * n → U5 438 q = U 438 q := fun q h1 h2 h3 h4 => by rw [d6 q h1, g6 q h2, m9 q h4 h3]
              refine ⟨U5, K5, w, on, m1.trans d1, ⟨d2, by rw [d4 12 (by omega), g4 12 (by omega), m5], d5, by rw [d4 13 (by omega), g4 13 (by omega), m6], by rw [d4 19 (by omega), g4 19 (by omega), m4]⟩, ?_, ?_⟩
              · exact R.plain (σ := σ) hn.2 (fun q hq => by rw [f4 q hq]; simp (disch := first | decide | omega | (simp (disch := first | decide | omega) only [sv_s, sv_o, ur_s, ur_e, ur_o]; omega)) only [↓reduceIte, iv_add, iv_sub, iv_mul, iv_neg, iv_ltT, iv_ltF, iv_leT, iv_leF, iv_eqT, iv_eqF, iv_div, iv_mod, ↓bnI_s, ↓bnV_s, ↓bnJ_s, ↓bnR_s, rt_e, rt_0, rt_bz, sv_s, sv_o, ur_s, ur_e, ur_o, bz_T, bz_F, nat_eqF, Nat.reduceAdd]) (by rw [fiC_o (by decide) (by decide)]; simp (disch := first | decide | omega | (simp (disch := first | decide | omega) only [sv_s, sv_o, ur_s, ur_e, ur_o]; omega)) only [↓reduceIte, iv_add, iv_sub, iv_mul, iv_neg, iv_ltT, iv_ltF, iv_leT, iv_leF, iv_eqT, iv_eqF, iv_div, iv_mod, ↓bnI_s, ↓bnV_s, ↓bnJ_s, ↓bnR_s, rt_e, rt_0, rt_bz, sv_s, sv_o, ur_s, ur_e, ur_o, bz_T, bz_F, nat_eqF, Nat.reduceAdd]) (fun q q0 q1 => e3 q (by omega) (by omega) (by omega) (by omega)) (fun q q0 => e3 q (by omega) (by omega) (by omega) (by omega)) v1 (by omega) (by rw [f1, f2, f3, v1, v2, v3]; exact hcl _ _ vb.1 vb.2 vb2.1 vb2.2) (by omega)
              · refine m10.tr ⟨fun a h1 h2 _ => (d3 a h1 h2).trans (g3 a h1 h2), fun q h1 h2 => (d4 q h1).trans (g4 q h1), fun q hq => ?_⟩
                rw [d6 q (by omega), g6 q (by omega)]
            · obtain ⟨V', z1, z2, z3⟩ := zf k35
              refine ⟨V', z1, (fr3.tr frC.w4).tr z3, Or.inr ⟨i + 1 + 1 + 1 + 1, 1, z2, by omega, fun U K w on hu R => ?_⟩⟩
              obtain ⟨U1, K1, U2, K2, U3, K3, m1, b1, iw, nx, m2, m4, m5, m6, m7, m8, m8', m9, m10⟩ := mo2 U K w on hu R
              obtain ⟨U4, K4, g1, g2, g3, g4, g5, g6⟩ := y_figok (z := zm) G S m2 ⟨by omega, jm3⟩ k38' rfl vb2 (by omega) (x := sX s + 1 + 3 * n + 2) (by omega)
              have hb := hb3 U1 K1 U2 K2 U3 K3 U4 K4 (sX s + 1 + 3 * n) 0 b1 iw nx g1
              have d1 := (c_fin G S g2 (by omega) (by rw [g4 12 (by omega)]; exact m5) (by rw [g6 _ (by omega)]; exact m7) hn hb).1 k35
              refine ⟨_, _, m1.trans d1, by simp (disch := first | decide | omega | (simp (disch := first | decide | omega) only [sv_s, sv_o, ur_s, ur_e, ur_o]; omega)) only [↓reduceIte, iv_add, iv_sub, iv_mul, iv_neg, iv_ltT, iv_ltF, iv_leT, iv_leF, iv_eqT, iv_eqF, iv_div, iv_mod, ↓bnI_s, ↓bnV_s, ↓bnJ_s, ↓bnR_s, rt_e, rt_0, rt_bz, sv_s, sv_o, ur_s, ur_e, ur_o, bz_T, bz_F, nat_eqF, Nat.reduceAdd]; exact g2.2.2.1, m10.tr (show frW s U3 _ from ?_)⟩
              exact (show frW s U3 U4 from ⟨fun a h1 h2 _ => g3 a h1 h2, fun q h1 h2 => g4 q h1, fun q hq => g6 q (by omega)⟩).tr (frW.w8 (by omega))
          · have nu2 := z_numout (J := J) F S q31 q32 q33 (by omega) k38' vb2 (by omega)
            rw [nu2, bnI_s]
            obtain ⟨V', z1, z2, z3⟩ := z_dead (J := J) (k := k) (a := sV s (i + 1)) (b := sV s (i + 1 + 1 + 1)) (n := n) F (z_cd (f := 2) q31 q32 (by omega) (by omega) (by decide)) (by simp (disch := first | decide | omega | (simp (disch := first | decide | omega) only [sv_s, sv_o, ur_s, ur_e, ur_o]; omega)) only [↓reduceIte, iv_add, iv_sub, iv_mul, iv_neg, iv_ltT, iv_ltF, iv_leT, iv_leF, iv_eqT, iv_eqF, iv_div, iv_mod, ↓bnI_s, ↓bnV_s, ↓bnJ_s, ↓bnR_s, rt_e, rt_0, rt_bz, sv_s, sv_o, ur_s, ur_e, ur_o, bz_T, bz_F, nat_eqF, Nat.reduceAdd]; exact P.2.2.2.1) (by omega)
            refine ⟨V', z1, (fr3.tr (frC.w4.tr frC.w4)).tr z3, Or.inr ⟨i + 1 + 1 + 1, 2, z2, by omega, fun U K w on hu R => ?_⟩⟩
            obtain ⟨U1, K1, U2, K2, U3, K3, m1, b1, iw, nx, m2, m4, m5, m6, m7, m8, m8', m9, m10⟩ := mo2 U K w on hu R
            have g1 := y_figout (z := zm) (x := sX s + 1 + 3 * n + 2) G m2 k38' vb2 (by omega)
            exact ⟨U3, K3, m1.trans (c_bad (hb3 U1 K1 U2 K2 U3 K3 U3 K3 _ 2 b1 iw nx g1) (by decide)), m2.2.2.1, m10⟩
        · have nu2 := z_numno (J := J) (lo := lo2) (hi := hi2) F S q31 q32 q33 (by omega) k38'
          rw [nu2, bnI_s]
          obtain ⟨V', z1, z2, z3⟩ := z_dead (J := J) (k := k) (a := sV s (i + 1)) (b := sV s (i + 1 + 1 + 1)) (n := n) F (z_cd (f := 1) q31 q32 (by omega) (by omega) (by decide)) (by simp (disch := first | decide | omega | (simp (disch := first | decide | omega) only [sv_s, sv_o, ur_s, ur_e, ur_o]; omega)) only [↓reduceIte, iv_add, iv_sub, iv_mul, iv_neg, iv_ltT, iv_ltF, iv_leT, iv_leF, iv_eqT, iv_eqF, iv_div, iv_mod, ↓bnI_s, ↓bnV_s, ↓bnJ_s, ↓bnR_s, rt_e, rt_0, rt_bz, sv_s, sv_o, ur_s, ur_e, ur_o, bz_T, bz_F, nat_eqF, Nat.reduceAdd]; exact P.2.2.2.1) (by omega)
          refine ⟨V', z1, (fr3.tr (frC.w4.tr frC.w4)).tr z3, Or.inr ⟨i + 1 + 1 + 1, 1, z2, by omega, fun U K w on hu R => ?_⟩⟩
          obtain ⟨U1, K1, U2, K2, U3, K3, m1, b1, iw, nx, m2, m4, m5, m6, m7, m8, m8', m9, m10⟩ := mo2 U K w on hu R
          have g1 := y_figno (z := zm) (x := sX s + 1 + 3 * n + 2) (lo := lo2) (hi := hi2) G m2 k38'
          exact ⟨U3, K3, m1.trans (c_bad (hb3 U1 K1 U2 K2 U3 K3 U3 K3 _ 1 b1 iw nx g1) (by decide)), m2.2.2.1, m10⟩
      · have ex := z_exp0 (J := J) F S q21 q22 q23 (by omega) kw (by omega)
        have D := z_cd (f := 1) q21 q22 (by omega) (by omega) (by decide)
        obtain ⟨V', z1, z2, z3⟩ := rest _ 1 _ D (by simp (disch := first | decide | omega | (simp (disch := first | decide | omega) only [sv_s, sv_o, ur_s, ur_e, ur_o]; omega)) only [↓reduceIte, iv_add, iv_sub, iv_mul, iv_neg, iv_ltT, iv_ltF, iv_leT, iv_leF, iv_eqT, iv_eqF, iv_div, iv_mod, ↓bnI_s, ↓bnV_s, ↓bnJ_s, ↓bnR_s, rt_e, rt_0, rt_bz, sv_s, sv_o, ur_s, ur_e, ur_o, bz_T, bz_F, nat_eqF, Nat.reduceAdd]; exact P.2.2.2.1) (sV s (i + 1))
        rw [y_expectd F D] at z1
        rw [ex]
        refine ⟨V', z1, ((frC.w4.tr frC.w4).tr (frC.w4.tr frC.w4)).tr z3, Or.inr ⟨i + 1 + 1, 1, z2, by omega, fun U K w on hu R => ?_⟩⟩
        obtain ⟨U1, K1, m1, m2, m3, m4, m5, m6, m7, m8, m9, m10⟩ := mo hu R
        obtain ⟨U2, K2, b1, b2, b3, b4, b5, b6⟩ := mo1 hu R U1 K1 m2
        have iw := y_isWord (z := zm) G b2.2 hwd.1 hwd.2
        rw [bz_F kw] at iw
        exact ⟨U2, K2, m1.trans (c_bad (hb2 U1 K1 U2 K2 _ b1 iw) (by decide)), b2.2.2.1, m10.tr ⟨fun a h1 h2 _ => b3 a h1 h2, fun q h1 h2 => b4 q h1, fun q hq => b6 q (by omega)⟩⟩
    · have nu := z_numout (J := J) F S q1 q2 q3 (by omega) k38 vb (by omega)
      rw [nu, bnI_s]
      obtain ⟨V', z1, z2, z3⟩ := rest _ 2 _ (z_cd (f := 2) q1 q2 (by omega) (by omega) (by decide)) (by simp (disch := first | decide | omega | (simp (disch := first | decide | omega) only [sv_s, sv_o, ur_s, ur_e, ur_o]; omega)) only [↓reduceIte, iv_add, iv_sub, iv_mul, iv_neg, iv_ltT, iv_ltF, iv_leT, iv_leF, iv_eqT, iv_eqF, iv_div, iv_mod, ↓bnI_s, ↓bnV_s, ↓bnJ_s, ↓bnR_s, rt_e, rt_0, rt_bz, sv_s, sv_o, ur_s, ur_e, ur_o, bz_T, bz_F, nat_eqF, Nat.reduceAdd]; exact P.2.2.2.1) (sV s (i + 1))
      refine ⟨V', z1, (frC.w4.tr (frC.w4.tr frC.w4)).tr z3, Or.inr ⟨i + 1, 2, z2, by omega, fun U K w on hu R => ?_⟩⟩
      obtain ⟨U1, K1, m1, m2, m3, m4, m5, m6, m7, m8, m9, m10⟩ := mo hu R
      have b1 := y_figout (z := zm) (x := sX s + 1 + 3 * n + 1) G m2 k38 vb (by omega)
      exact ⟨U1, K1, m1.trans (c_bad (hb1 U1 K1 U1 K1 _ 2 b1 (by decide) (by decide)) (by decide)), m2.2.2.1, m10⟩
  · have nu := z_numno (J := J) (lo := 0) (hi := h1) F S q1 q2 q3 (by omega) k38
    rw [nu, bnI_s]
    obtain ⟨V', z1, z2, z3⟩ := rest _ 1 _ (z_cd (f := 1) q1 q2 (by omega) (by omega) (by decide)) (by simp (disch := first | decide | omega | (simp (disch := first | decide | omega) only [sv_s, sv_o, ur_s, ur_e, ur_o]; omega)) only [↓reduceIte, iv_add, iv_sub, iv_mul, iv_neg, iv_ltT, iv_ltF, iv_leT, iv_leF, iv_eqT, iv_eqF, iv_div, iv_mod, ↓bnI_s, ↓bnV_s, ↓bnJ_s, ↓bnR_s, rt_e, rt_0, rt_bz, sv_s, sv_o, ur_s, ur_e, ur_o, bz_T, bz_F, nat_eqF, Nat.reduceAdd]; exact P.2.2.2.1) (sV s (i + 1))
    refine ⟨V', z1, (frC.w4.tr (frC.w4.tr frC.w4)).tr z3, Or.inr ⟨i + 1, 1, z2, by omega, fun U K w on hu R => ?_⟩⟩
    obtain ⟨U1, K1, m1, m2, m3, m4, m5, m6, m7, m8, m9, m10⟩ := mo hu R
    have b1 := y_figno (z := zm) (x := sX s + 1 + 3 * n + 1) (lo := 0) (hi := h1) G m2 k38
    exact ⟨U1, K1, m1.trans (c_bad (hb1 U1 K1 U1 K1 _ 1 b1 (by decide) (by decide)) (by decide)), m2.2.2.1, m10⟩
end
