/-! THE READING: a clause that is a law; every clause -/
section
variable {V V0 W J : Vm} {z zm : Zz} {s : Sm} {i j n c ra ba k a b f g v w on σ x r y : Int} {U U' U1 U2 U3 U4 K K1 K2 K3 K4 : Vm}
theorem Rt.law {V' : Vm} {c' : Int} {M : (Int → Int) → Int → Int} (R : Rt V U s i n c w ra ba on) (k01 : k = 0 ∨ k = 1) (hn : n < 24) (n0 : k = 0 → ra = -1) (n1 : k = 1 → ba = -1) (hj : i ≤ j) (hc : c ≤ c' ∧ c' + 1 ≤ j) (hg : 0 ≤ g ∧ w + g ≤ j) (h5 : ∀ q, q < 3 * n → V' 425 q = V 425 q) (f1 : V' 425 (3 * n) = k) (w0 : U' 438 (sX s + 1 + 3 * n) = k) (w1 : U' 438 (sX s + 1 + 3 * n + 1) = w) (w2 : U' 438 (sX s + 1 + 3 * n + 2) = w + g) (cl : ∀ q, sX s + 1 ≤ q → q < sX s + 1 + 3 * n → U' 438 q = U 438 q) (co : ∀ q, sX s + 73 ≤ q → q < sX s + 73 + 2 * w → U' 438 q = U 438 q) (dl : ∀ q, q < c → V' 426 q = V 426 q) (me : ME (fun q => U' 438 (sX s + 73 + q)) w (w + g) M) (C : CE (V' 426) c c' M) (h35 : V' 426 c' = 35) (B : MB M) : Rt V' U' s j (n + 1) (c' + 1) (w + g) (if k = 0 then c else ra) (if k = 0 then ba else c) (if k = 0 then on + 1 else if k = 1 then on + 2 else on) := by
  obtain ⟨t1, t2, t3, t4, t5, t6, t7, t8, t9⟩ := R
  have cls : ∀ q, 0 ≤ q → q < n + 1 → CLR (V' 425 (3 * q)) (V' 425 (3 * q + 1)) (V' 425 (3 * q + 2)) (U' 438 (sX s + 1 + 3 * q)) (U' 438 (sX s + 1 + 3 * q + 1)) (U' 438 (sX s + 1 + 3 * q + 2)) := by
    intro q q0 q1
    by_cases e : q = n
    · rw [e, f1, w0]
      rcases k01 with h | h
      · exact Or.inl ⟨h, h⟩
      · exact Or.inr (Or.inl ⟨h, h⟩)
    · rw [h5 _ (by omega), h5 _ (by omega), h5 _ (by omega), cl _ (by omega) (by omega), cl _ (by omega) (by omega), cl _ (by omega) (by omega)]
      exact t4 q q0 (by omega)
  rcases k01 with rfl | rfl
  · have ram := n0 rfl
    rw [ram] at t5
    rw [if_pos rfl, if_pos rfl, if_pos rfl]
    refine ⟨by omega, by omega, by omega, cls, t5.new t2.1 t1 cl w0 C (by omega) h35 w1 w2 me B, t6.mono t1 t3.1 cl co dl (by rw [w0]; decide) (by omega) (by omega), ?_, ?_, ?_⟩
    · clear t4 t5 t6 cls; omega
    · clear t4 t5 t6 cls; omega
    · clear t4 t5 t6 cls; omega
  · have bam := n1 rfl
    rw [bam] at t6
    rw [if_neg (by decide), if_neg (by decide), if_neg (by decide), if_pos rfl]
    refine ⟨by omega, by omega, by omega, cls, t5.mono t1 t3.1 cl co dl (by rw [w0]; decide) (by omega) (by omega), t6.new t2.1 t1 cl w0 C (by omega) h35 w1 w2 me B, ?_, ?_, ?_⟩
    · clear t4 t5 t6 cls; omega
    · clear t4 t5 t6 cls; omega
    · clear t4 t5 t6 cls; omega
theorem cl_3 (F : Fix z) (G : Fix zm) (S : SO s) (P : Cc V s i n c ra ba) (hi' : 0 ≤ i ∧ i ≤ sM s) (hr : -1 ≤ ra ∧ ra ≤ 400 ∧ -1 ≤ ba ∧ ba ≤ 400) (hc : 0 ≤ c ∧ c ≤ i) (hn : 0 ≤ n ∧ n < 24) (hk : sK s i = k) (k01 : k = 0 ∨ k = 1) (nag : ¬ ag (sK s i) ra ba) : ∃ V1, (bnI (cA m_Reader_openClause [.ref 424] (em V J z)) fun w5 h4 => cA m_Reader_readClause [.ref 424, .int w5] h4) = some (.null, em V1 J z) ∧ frC V V1 ∧ ClS zm s V V1 i n c ra ba := by
  have S1 := S.1
  have S2 := S.2.1
  have hσ : srt k = k := by rcases k01 with rfl | rfl <;> rfl
  have op := (y_open (J := J) F S P hi' hr hc (by omega)).2.2.2 (by rw [hk]; omega) nag hn.2
  have im : i < sM s := S.lt hi'.1 hi'.2 (by omega)
  have n0 : k = 0 → ra = -1 := by unfold ag at nag; omega
  have n1 : k = 1 → ba = -1 := by unfold ag at nag; omega
  rw [hk] at op
  have Q : Cc (sv V 424 8 (i + 1)) s (i + 1) n c ra ba := P.at8
  obtain ⟨q1, q2, q3, q4, q5, q6, q7⟩ := Q
  have hbC : cA m_Reader_readClause [.ref 424, .int (iv k)] (em (sv V 424 8 (i + 1)) J z) = bnV (cA m_Reader_readLaw [.ref 424, .int (iv k)] (em (sv V 424 8 (i + 1)) J z)) fun h => rX m_Reader_readClause m_Reader_readClause 161 [.ref 424, .int (iv k), .int (iv 0), .int (iv 0)] [] h := by
    rcases k01 with rfl | rfl
    · (rw [q_Reader_readClause]; simp (disch := first | decide | omega | (simp (disch := first | decide | omega) only [sv_s, sv_o, ur_s, ur_e, ur_o]; omega)) only [↓reduceIte, iv_add, iv_sub, iv_mul, iv_neg, iv_ltT, iv_ltF, iv_leT, iv_leF, iv_eqT, iv_eqF, iv_div, iv_mod, ↓bnI_s, ↓bnV_s, ↓bnJ_s, ↓bnR_s, rt_e, rt_0, rt_bz, sv_s, sv_o, ur_s, ur_e, ur_o, bz_T, bz_F, nat_eqF, Nat.reduceAdd, ↓gd_424 F, il_0, il_1, il_2, il_3, il_5, il_6, il_8, il_9, il_10, il_20, il_60, il_99, il_161])
    · (rw [q_Reader_readClause]; simp (disch := first | decide | omega | (simp (disch := first | decide | omega) only [sv_s, sv_o, ur_s, ur_e, ur_o]; omega)) only [↓reduceIte, iv_add, iv_sub, iv_mul, iv_neg, iv_ltT, iv_ltF, iv_leT, iv_leF, iv_eqT, iv_eqF, iv_div, iv_mod, ↓bnI_s, ↓bnV_s, ↓bnJ_s, ↓bnR_s, rt_e, rt_0, rt_bz, sv_s, sv_o, ur_s, ur_e, ur_o, bz_T, bz_F, nat_eqF, Nat.reduceAdd, ↓gd_424 F, il_0, il_1, il_2, il_3, il_5, il_6, il_8, il_9, il_10, il_20, il_60, il_99, il_161])
  have hbM : ∀ (U K U2 K2 : Vm) (x r : Int), cA m_M_lawClause [.ref 435, .int (iv x)] (em U K zm) = some (.int (iv r), em U2 K2 zm) → cA m_M_body [.ref 435, .int (iv k), .int (iv x)] (em U K zm) = some (.int (iv r), em U2 K2 zm) := by
    intro U K U2 K2 x r h
    rcases k01 with rfl | rfl
    · have F := G
      simp (disch := first | decide | omega | (simp (disch := first | decide | omega) only [sv_s, sv_o, ur_s, ur_e, ur_o]; omega)) only [↓reduceIte, iv_add, iv_sub, iv_mul, iv_neg, iv_ltT, iv_ltF, iv_leT, iv_leF, iv_eqT, iv_eqF, iv_div, iv_mod, ↓bnI_s, ↓bnV_s, ↓bnJ_s, ↓bnR_s, rt_e, rt_0, rt_bz, sv_s, sv_o, ur_s, ur_e, ur_o, bz_T, bz_F, nat_eqF, Nat.reduceAdd, ↓q_M_body, ↓gd_435 F, il_0, il_1, il_2, il_3, il_4, il_5, il_6, il_7, il_9, il_27, il_60, il_98, il_99, il_101, il_104, il_105, il_107, il_112, il_116, il_119, il_121, h]
    · have F := G
      simp (disch := first | decide | omega | (simp (disch := first | decide | omega) only [sv_s, sv_o, ur_s, ur_e, ur_o]; omega)) only [↓reduceIte, iv_add, iv_sub, iv_mul, iv_neg, iv_ltT, iv_ltF, iv_leT, iv_leF, iv_eqT, iv_eqF, iv_div, iv_mod, ↓bnI_s, ↓bnV_s, ↓bnJ_s, ↓bnR_s, rt_e, rt_0, rt_bz, sv_s, sv_o, ur_s, ur_e, ur_o, bz_T, bz_F, nat_eqF, Nat.reduceAdd, ↓q_M_body, ↓gd_435 F, il_0, il_1, il_2, il_3, il_4, il_5, il_6, il_7, il_9, il_27, il_60, il_98, il_99, il_101, il_104, il_105, il_107, il_112, il_116, il_119, il_121, h]
  rw [op, bnI_s, hbC]
  obtain ⟨V1, l1, l2, l3, l4, out⟩ := y_law (J := J) (k := k) F G S q1 q2 q3 q5 q7.2 (by omega) k01
  rw [l1, bnV_s]
  have l4' : V1 424 3 = n := l4.trans q4
  have mo := fun {U K : Vm} {w on : Int} (hu : Uc U K s i n w on) (R : Rt V U s i n c w ra ba on) => mo_go G S ⟨hi'.1, im⟩ hn hk (σ := k) ⟨hσ, by omega⟩ nag hu R
  rcases out with ⟨j, c', g, M, ⟨o1, o2, o3, o4, o4x⟩, o5, o6, o7, o8, o9, o10, o11, o12, o13, o14, o15⟩ | ⟨j, f, o1, o2, o3⟩
  · obtain ⟨ra', ba', hra, hba⟩ : ∃ ra' ba', ra' = (if k = 0 then c else ra) ∧ ba' = (if k = 0 then ba else c) := ⟨_, _, rfl, rfl⟩
    have Pc : Cc V1 s j n (c' + 1) ra' ba' := by
      refine ⟨o1, o2, o3, l4', o4, ?_, ?_, o4x⟩
      · rw [hra]
        rcases k01 with rfl | rfl
        · rw [if_pos rfl]; exact o5
        · rw [if_neg (by decide)]; exact o6.trans q6
      · rw [hba]
        rcases k01 with rfl | rfl
        · rw [if_pos rfl]; exact o6.trans q7.1
        · rw [if_neg (by decide)]; exact o5
    obtain ⟨ze, zf⟩ := z_end (J := J) (k := k) (a := 0) (b := 0) F S Pc (by omega) (by omega) (by omega)
    have md : ∀ U K w on, Uc U K s i n w on → Rt V U s i n c w ra ba on → ∃ U1 K1 U2 K2, cA m_M_clause [.ref 435] (em U K zm) = cB k (sX s + 1 + 3 * n) (em U1 K1 zm) ∧ cA m_M_body [.ref 435, .int (iv k), .int (iv (sX s + 1 + 3 * n))] (em U1 K1 zm) = some (.int (iv 0), em U2 K2 zm) ∧ Mt U2 K2 s j ∧ U2 435 12 = sX s ∧ U2 435 13 = w + g ∧ U2 435 19 = (if k = 0 then on + 1 else if k = 1 then on + 2 else on) ∧ U2 438 (sX s) = n ∧ U2 438 (sX s + 1 + 3 * n) = k ∧ U2 438 (sX s + 1 + 3 * n + 1) = w ∧ U2 438 (sX s + 1 + 3 * n + 2) = w + g ∧ (∀ q, q < sX s + 73 + 2 * w → q ≠ sX s + 1 + 3 * n → q ≠ sX s + 1 + 3 * n + 1 → q ≠ sX s + 1 + 3 * n + 2 → U2 438 q = U 438 q) ∧ ME (fun q => U2 438 (sX s + 73 + q)) w (w + g) M ∧ frW s U U2 := by
      intro U K w on hu R
      have r3 := R.2.2.1
      obtain ⟨U1, K1, m1, m2, m3, m4, m5, m6, m7, m8, m9, m10⟩ := mo hu R
      obtain ⟨U2, K2, b1, b2, b3, b4, b5, b6, b7, b8, b9, b10⟩ := (y_M_law (z := zm) G S m2 m5 m6 m3 k01 (x := sX s + 1 + 3 * n) (by omega) (by omega) (by omega)).2 j g M o15 o9 o7.2 o14
      exact ⟨U1, K1, U2, K2, m1, hbM _ _ _ _ _ _ b1, b2, b3, b4, b5.trans m4, (b9 _ (by omega) (by omega) (by omega)).trans m7, (b9 _ (by omega) (by omega) (by omega)).trans m8, b7, b8, fun q h1 h2 h3 h4 => (b9 q h1 h3 h4).trans (m9 q h2), b10, m10.tr b6⟩
    by_cases k35 : sK s j = 35
    · obtain ⟨z1, z2, z3⟩ := ze k35
      have jm := S.lt (i := j) (by omega) (by omega) (by omega)
      obtain ⟨f1, f2, f3, f4⟩ := fiC_in (V := sv V1 424 8 (j + 1)) (n := n) (k := k) (a := 0) (b := 0) hn
      have frA : frC V V1 := frC.w4.tr l2
      have rar : -1 ≤ ra' ∧ ra' ≤ 400 ∧ -1 ≤ ba' ∧ ba' ≤ 400 := by
        rw [hra, hba]
        rcases k01 with rfl | rfl
        · rw [if_pos rfl, if_pos rfl]; omega
        · rw [if_neg (by decide), if_neg (by decide)]; omega
      refine ⟨_, z1, frA.tr z3, Or.inl ⟨j + 1, c' + 1, ra', ba', z2, by omega, hn.2, by omega, rar, fun U K w on hu R => ?_⟩⟩
      obtain ⟨U1, K1, U2, K2, m1, hb, m2, m5, m6, m4, m7, m8, m8a, m8b, m9, me, m10⟩ := md U K w on hu R
      have r3 := R.2.2.1
      obtain ⟨U3, K3, d1, d2, d3, d4, d5, d6⟩ := (c_fin G S m2 (by omega) m5 m7 hn hb).2 k35
      have e6 : ∀ q, fiC (sv V1 424 8 (j + 1)) n k 0 0 426 q = V1 426 q := fun q => by rw [fiC_o (by decide) (by decide)]; simp (disch := first | decide | omega | (simp (disch := first | decide | omega) only [sv_s, sv_o, ur_s, ur_e, ur_o]; omega)) only [↓reduceIte, iv_add, iv_sub, iv_mul, iv_neg, iv_ltT, iv_ltF, iv_leT, iv_leF, iv_eqT, iv_eqF, iv_div, iv_mod, ↓bnI_s, ↓bnV_s, ↓bnJ_s, ↓bnR_s, rt_e, rt_0, rt_bz, sv_s, sv_o, ur_s, ur_e, ur_o, bz_T, bz_F, nat_eqF, Nat.reduceAdd]
      have w0 : U3 438 (sX s + 1 + 3 * n) = k := (d6 _ (by omega)).trans m8
      have w1 : U3 438 (sX s + 1 + 3 * n + 1) = w := (d6 _ (by omega)).trans m8a
      have w2 : U3 438 (sX s + 1 + 3 * n + 2) = w + g := (d6 _ (by omega)).trans m8b
      have cl : ∀ q, sX s + 1 ≤ q → q < sX s + 1 + 3 * n → U3 438 q = U 438 q := fun q q0 q1 => (d6 q (by omega)).trans (m9 q (by omega) (by omega) (by omega) (by omega))
      have co : ∀ q, sX s + 73 ≤ q → q < sX s + 73 + 2 * w → U3 438 q = U 438 q := fun q q0 q1 => (d6 q (by omega)).trans (m9 q (by omega) (by omega) (by omega) (by omega))
      have dl : ∀ q, q < c → fiC (sv V1 424 8 (j + 1)) n k 0 0 426 q = V 426 q := fun q hq => by
        rw [e6, o10 q hq]; simp (disch := first | decide | omega | (simp (disch := first | decide | omega) only [sv_s, sv_o, ur_s, ur_e, ur_o]; omega)) only [↓reduceIte, iv_add, iv_sub, iv_mul, iv_neg, iv_ltT, iv_ltF, iv_leT, iv_leF, iv_eqT, iv_eqF, iv_div, iv_mod, ↓bnI_s, ↓bnV_s, ↓bnJ_s, ↓bnR_s, rt_e, rt_0, rt_bz, sv_s, sv_o, ur_s, ur_e, ur_o, bz_T, bz_F, nat_eqF, Nat.reduceAdd]
      have jle : i ≤ j + 1 := by omega
      have cle : c ≤ c' ∧ c' + 1 ≤ j + 1 := by omega
      have gle : 0 ≤ g ∧ w + g ≤ j + 1 := by omega
      have me3 : ME (fun q => U3 438 (sX s + 73 + q)) w (w + g) M := me.ext (fun q q0 q1 => d6 _ (by omega))
      have CE3 : CE (fiC (sv V1 424 8 (j + 1)) n k 0 0 426) c c' M := o11.ext (fun q _ _ => e6 q)
      have h35 : fiC (sv V1 424 8 (j + 1)) n k 0 0 426 c' = 35 := (e6 c').trans o12
      refine ⟨U3, K3, w + g, _, m1.trans d1, ⟨d2, by rw [d4 12 (by omega), m5], d5, by rw [d4 13 (by omega), m6], rfl⟩, ?_, m10.tr ⟨fun a h1 h2 _ => d3 a h1 h2, fun q h1 h2 => d4 q h1, fun q hq => d6 q (by omega)⟩⟩
      have d19 : U3 435 19 = (if k = 0 then on + 1 else if k = 1 then on + 2 else on) := (d4 19 (by omega)).trans m4
      have v5 : ∀ p, p < 3 * n → fiC (sv V1 424 8 (j + 1)) n k 0 0 425 p = V 425 p := fun p hp => by
        rw [f4 p hp]
        simp (disch := first | decide | omega | (simp (disch := first | decide | omega) only [sv_s, sv_o, ur_s, ur_e, ur_o]; omega)) only [↓reduceIte, iv_add, iv_sub, iv_mul, iv_neg, iv_ltT, iv_ltF, iv_leT, iv_leF, iv_eqT, iv_eqF, iv_div, iv_mod, ↓bnI_s, ↓bnV_s, ↓bnJ_s, ↓bnR_s, rt_e, rt_0, rt_bz, sv_s, sv_o, ur_s, ur_e, ur_o, bz_T, bz_F, nat_eqF, Nat.reduceAdd, l3]
      rw [d19, hra, hba]
      exact R.law k01 hn.2 n0 n1 jle cle gle v5 f1 w0 w1 w2 cl co dl me3 CE3 h35 o13
    · obtain ⟨V', z1, z2, z3⟩ := zf k35
      refine ⟨V', z1, (frC.w4.tr l2).tr z3, Or.inr ⟨j, 1, z2, by omega, fun U K w on hu R => ?_⟩⟩
      obtain ⟨U1, K1, U2, K2, m1, hb, m2, m5, m6, m4, m7, m8, m8a, m8b, m9, me, m10⟩ := md U K w on hu R
      have d1 := (c_fin G S m2 (by omega) m5 m7 hn hb).1 k35
      exact ⟨_, _, m1.trans d1, by simp (disch := first | decide | omega | (simp (disch := first | decide | omega) only [sv_s, sv_o, ur_s, ur_e, ur_o]; omega)) only [↓reduceIte, iv_add, iv_sub, iv_mul, iv_neg, iv_ltT, iv_ltF, iv_leT, iv_leF, iv_eqT, iv_eqF, iv_div, iv_mod, ↓bnI_s, ↓bnV_s, ↓bnJ_s, ↓bnR_s, rt_e, rt_0, rt_bz, sv_s, sv_o, ur_s, ur_e, ur_o, bz_T, bz_F, nat_eqF, Nat.reduceAdd]; exact m2.2.2.1, m10.tr (frW.w8 (by omega))⟩
  · obtain ⟨V', z1, z2, z3⟩ := z_dead (J := J) (k := k) (a := 0) (b := 0) (n := n) F o1 l4' (by omega)
    refine ⟨V', z1, (frC.w4.tr l2).tr z3, Or.inr ⟨j, f, z2, by omega, fun U K w on hu R => ?_⟩⟩
    have r3 := R.2.2.1
    obtain ⟨U1, K1, m1, m2, m3, m4, m5, m6, m7, m8, m9, m10⟩ := mo hu R
    obtain ⟨U2, K2, b1, b2, b3⟩ := (y_M_law (z := zm) G S m2 m5 m6 m3 k01 (x := sX s + 1 + 3 * n) (by omega) (by omega) (by omega)).1 j f o3 o1.2.2.1.2
    exact ⟨U2, K2, m1.trans (c_bad (hbM _ _ _ _ _ _ b1) o1.2.2.1.2), b2, m10.tr b3⟩
/-- every clause -/
theorem y_clause (F : Fix z) (G : Fix zm) (S : SO s) (P : Cc V s i n c ra ba) (hi' : 0 ≤ i ∧ i ≤ sM s) (hr : -1 ≤ ra ∧ ra ≤ 400 ∧ -1 ≤ ba ∧ ba ≤ 400) (hc : 0 ≤ c ∧ c ≤ i) (hn : 0 ≤ n ∧ n ≤ 24) : ∃ V1, (bnI (cA m_Reader_openClause [.ref 424] (em V J z)) fun w5 h4 => cA m_Reader_readClause [.ref 424, .int w5] h4) = some (.null, em V1 J z) ∧ frC V V1 ∧ ClS zm s V V1 i n c ra ba := by
  by_cases bad : srt (sK s i) = -1 ∨ ag (sK s i) ra ba ∨ n = 24
  · exact cl_bad F G S P hi' hr hc hn bad
  · have b1 : srt (sK s i) ≠ -1 := fun q => bad (Or.inl q)
    have b2 : ¬ ag (sK s i) ra ba := fun q => bad (Or.inr (Or.inl q))
    have b3 : n < 24 := by
      by_cases q : n = 24
      · exact absurd (Or.inr (Or.inr q)) bad
      · omega
    have kk : sK s i = 0 ∨ sK s i = 1 ∨ sK s i = 2 ∨ sK s i = 4 ∨ sK s i = 5 ∨ sK s i = 7 ∨ sK s i = 8 ∨ sK s i = 10 := by
      unfold srt at b1
      by_cases c : sK s i = 0 ∨ sK s i = 1 ∨ sK s i = 2 ∨ sK s i = 4 ∨ sK s i = 5 ∨ sK s i = 7 ∨ sK s i = 8 ∨ sK s i = 10
      · exact c
      · rw [if_neg (by omega), if_neg (by omega), if_neg (by omega), if_neg (by omega), if_neg (by omega), if_neg (by omega), if_neg (by omega), if_neg (by omega)] at b1
        exact absurd rfl b1
    rcases kk with k | k | k | k | k | k | k | k
    · exact cl_3 F G S P hi' hr hc ⟨hn.1, b3⟩ k (by omega) b2
    · exact cl_3 F G S P hi' hr hc ⟨hn.1, b3⟩ k (by omega) b2
    · refine cl_2 (σ := 2) (h1 := 9) (lo2 := 0) (hi2 := 99) (wd := 3) F G S P hi' hr hc ⟨hn.1, b3⟩ k ⟨rfl, by decide⟩ (by decide) (by decide) (fun V => by (rw [q_Reader_readClause]; simp (disch := first | decide | omega | (simp (disch := first | decide | omega) only [sv_s, sv_o, ur_s, ur_e, ur_o]; omega)) only [↓reduceIte, iv_add, iv_sub, iv_mul, iv_neg, iv_ltT, iv_ltF, iv_leT, iv_leF, iv_eqT, iv_eqF, iv_div, iv_mod, ↓bnI_s, ↓bnV_s, ↓bnJ_s, ↓bnR_s, rt_e, rt_0, rt_bz, sv_s, sv_o, ur_s, ur_e, ur_o, bz_T, bz_F, nat_eqF, Nat.reduceAdd, ↓gd_424 F, il_0, il_1, il_2, il_3, il_5, il_6, il_8, il_9, il_10, il_20, il_60, il_99, il_161]); rfl) (fun U K U2 K2 x r h r1 r2 => ?_) (fun U K U2 K2 x h iw => ?_) (fun U K U2 K2 U3 K3 U4 K4 x r h iw nx h2 => ?_) (fun a b a0 a1 b0 b1 => by unfold CLR; omega)
      · have F := G
        simp (disch := first | decide | omega | (simp (disch := first | decide | omega) only [sv_s, sv_o, ur_s, ur_e, ur_o]; omega)) only [↓reduceIte, iv_add, iv_sub, iv_mul, iv_neg, iv_ltT, iv_ltF, iv_leT, iv_leF, iv_eqT, iv_eqF, iv_div, iv_mod, ↓bnI_s, ↓bnV_s, ↓bnJ_s, ↓bnR_s, rt_e, rt_0, rt_bz, sv_s, sv_o, ur_s, ur_e, ur_o, bz_T, bz_F, nat_eqF, Nat.reduceAdd, ↓q_M_body, ↓q_M_pair, ↓gd_435 F, il_0, il_1, il_2, il_3, il_4, il_5, il_6, il_7, il_9, il_27, il_60, il_98, il_99, il_101, il_104, il_105, il_107, il_112, il_116, il_119, il_121, lw_3, h]
      · have F := G
        simp (disch := first | decide | omega | (simp (disch := first | decide | omega) only [sv_s, sv_o, ur_s, ur_e, ur_o]; omega)) only [↓reduceIte, iv_add, iv_sub, iv_mul, iv_neg, iv_ltT, iv_ltF, iv_leT, iv_leF, iv_eqT, iv_eqF, iv_div, iv_mod, ↓bnI_s, ↓bnV_s, ↓bnJ_s, ↓bnR_s, rt_e, rt_0, rt_bz, sv_s, sv_o, ur_s, ur_e, ur_o, bz_T, bz_F, nat_eqF, Nat.reduceAdd, ↓q_M_body, ↓q_M_pair, ↓gd_435 F, il_0, il_1, il_2, il_3, il_4, il_5, il_6, il_7, il_9, il_27, il_60, il_98, il_99, il_101, il_104, il_105, il_107, il_112, il_116, il_119, il_121, lw_3, h, iw]
      · have F := G
        simp (disch := first | decide | omega | (simp (disch := first | decide | omega) only [sv_s, sv_o, ur_s, ur_e, ur_o]; omega)) only [↓reduceIte, iv_add, iv_sub, iv_mul, iv_neg, iv_ltT, iv_ltF, iv_leT, iv_leF, iv_eqT, iv_eqF, iv_div, iv_mod, ↓bnI_s, ↓bnV_s, ↓bnJ_s, ↓bnR_s, rt_e, rt_0, rt_bz, sv_s, sv_o, ur_s, ur_e, ur_o, bz_T, bz_F, nat_eqF, Nat.reduceAdd, ↓q_M_body, ↓q_M_pair, ↓gd_435 F, il_0, il_1, il_2, il_3, il_4, il_5, il_6, il_7, il_9, il_27, il_60, il_98, il_99, il_101, il_104, il_105, il_107, il_112, il_116, il_119, il_121, lw_3, h, iw, nx, h2]
    · refine cl_1 (σ := 3) (lo := 0) (hi := 5) F G S P hi' hr hc ⟨hn.1, b3⟩ k ⟨rfl, by decide⟩ (by decide) (fun V => by (rw [q_Reader_readClause]; simp (disch := first | decide | omega | (simp (disch := first | decide | omega) only [sv_s, sv_o, ur_s, ur_e, ur_o]; omega)) only [↓reduceIte, iv_add, iv_sub, iv_mul, iv_neg, iv_ltT, iv_ltF, iv_leT, iv_leF, iv_eqT, iv_eqF, iv_div, iv_mod, ↓bnI_s, ↓bnV_s, ↓bnJ_s, ↓bnR_s, rt_e, rt_0, rt_bz, sv_s, sv_o, ur_s, ur_e, ur_o, bz_T, bz_F, nat_eqF, Nat.reduceAdd, ↓gd_424 F, il_0, il_1, il_2, il_3, il_5, il_6, il_8, il_9, il_10, il_20, il_60, il_99, il_161])) (fun U K U2 K2 x r h => ?_) (fun v y v0 v1 => by unfold CLR; omega)
      have F := G
      simp (disch := first | decide | omega | (simp (disch := first | decide | omega) only [sv_s, sv_o, ur_s, ur_e, ur_o]; omega)) only [↓reduceIte, iv_add, iv_sub, iv_mul, iv_neg, iv_ltT, iv_ltF, iv_leT, iv_leF, iv_eqT, iv_eqF, iv_div, iv_mod, ↓bnI_s, ↓bnV_s, ↓bnJ_s, ↓bnR_s, rt_e, rt_0, rt_bz, sv_s, sv_o, ur_s, ur_e, ur_o, bz_T, bz_F, nat_eqF, Nat.reduceAdd, ↓q_M_body, ↓gd_435 F, il_0, il_1, il_2, il_3, il_4, il_5, il_6, il_7, il_9, il_27, il_60, il_98, il_99, il_101, il_104, il_105, il_107, il_112, il_116, il_119, il_121, h]
    · refine cl_2 (σ := 4) (h1 := 5) (lo2 := 1) (hi2 := 99) (wd := 6) F G S P hi' hr hc ⟨hn.1, b3⟩ k ⟨rfl, by decide⟩ (by decide) (by decide) (fun V => by (rw [q_Reader_readClause]; simp (disch := first | decide | omega | (simp (disch := first | decide | omega) only [sv_s, sv_o, ur_s, ur_e, ur_o]; omega)) only [↓reduceIte, iv_add, iv_sub, iv_mul, iv_neg, iv_ltT, iv_ltF, iv_leT, iv_leF, iv_eqT, iv_eqF, iv_div, iv_mod, ↓bnI_s, ↓bnV_s, ↓bnJ_s, ↓bnR_s, rt_e, rt_0, rt_bz, sv_s, sv_o, ur_s, ur_e, ur_o, bz_T, bz_F, nat_eqF, Nat.reduceAdd, ↓gd_424 F, il_0, il_1, il_2, il_3, il_5, il_6, il_8, il_9, il_10, il_20, il_60, il_99, il_161]); rfl) (fun U K U2 K2 x r h r1 r2 => ?_) (fun U K U2 K2 x h iw => ?_) (fun U K U2 K2 U3 K3 U4 K4 x r h iw nx h2 => ?_) (fun a b a0 a1 b0 b1 => by unfold CLR; omega)
      · have F := G
        simp (disch := first | decide | omega | (simp (disch := first | decide | omega) only [sv_s, sv_o, ur_s, ur_e, ur_o]; omega)) only [↓reduceIte, iv_add, iv_sub, iv_mul, iv_neg, iv_ltT, iv_ltF, iv_leT, iv_leF, iv_eqT, iv_eqF, iv_div, iv_mod, ↓bnI_s, ↓bnV_s, ↓bnJ_s, ↓bnR_s, rt_e, rt_0, rt_bz, sv_s, sv_o, ur_s, ur_e, ur_o, bz_T, bz_F, nat_eqF, Nat.reduceAdd, ↓q_M_body, ↓q_M_pair, ↓gd_435 F, il_0, il_1, il_2, il_3, il_4, il_5, il_6, il_7, il_9, il_27, il_60, il_98, il_99, il_101, il_104, il_105, il_107, il_112, il_116, il_119, il_121, lw_6, h]
      · have F := G
        simp (disch := first | decide | omega | (simp (disch := first | decide | omega) only [sv_s, sv_o, ur_s, ur_e, ur_o]; omega)) only [↓reduceIte, iv_add, iv_sub, iv_mul, iv_neg, iv_ltT, iv_ltF, iv_leT, iv_leF, iv_eqT, iv_eqF, iv_div, iv_mod, ↓bnI_s, ↓bnV_s, ↓bnJ_s, ↓bnR_s, rt_e, rt_0, rt_bz, sv_s, sv_o, ur_s, ur_e, ur_o, bz_T, bz_F, nat_eqF, Nat.reduceAdd, ↓q_M_body, ↓q_M_pair, ↓gd_435 F, il_0, il_1, il_2, il_3, il_4, il_5, il_6, il_7, il_9, il_27, il_60, il_98, il_99, il_101, il_104, il_105, il_107, il_112, il_116, il_119, il_121, lw_6, h, iw]
      · have F := G
        simp (disch := first | decide | omega | (simp (disch := first | decide | omega) only [sv_s, sv_o, ur_s, ur_e, ur_o]; omega)) only [↓reduceIte, iv_add, iv_sub, iv_mul, iv_neg, iv_ltT, iv_ltF, iv_leT, iv_leF, iv_eqT, iv_eqF, iv_div, iv_mod, ↓bnI_s, ↓bnV_s, ↓bnJ_s, ↓bnR_s, rt_e, rt_0, rt_bz, sv_s, sv_o, ur_s, ur_e, ur_o, bz_T, bz_F, nat_eqF, Nat.reduceAdd, ↓q_M_body, ↓q_M_pair, ↓gd_435 F, il_0, il_1, il_2, il_3, il_4, il_5, il_6, il_7, il_9, il_27, il_60, il_98, il_99, il_101, il_104, il_105, il_107, il_112, il_116, il_119, il_121, lw_6, h, iw, nx, h2]
    · refine cl_1 (σ := 5) (lo := 0) (hi := 5) F G S P hi' hr hc ⟨hn.1, b3⟩ k ⟨rfl, by decide⟩ (by decide) (fun V => by (rw [q_Reader_readClause]; simp (disch := first | decide | omega | (simp (disch := first | decide | omega) only [sv_s, sv_o, ur_s, ur_e, ur_o]; omega)) only [↓reduceIte, iv_add, iv_sub, iv_mul, iv_neg, iv_ltT, iv_ltF, iv_leT, iv_leF, iv_eqT, iv_eqF, iv_div, iv_mod, ↓bnI_s, ↓bnV_s, ↓bnJ_s, ↓bnR_s, rt_e, rt_0, rt_bz, sv_s, sv_o, ur_s, ur_e, ur_o, bz_T, bz_F, nat_eqF, Nat.reduceAdd, ↓gd_424 F, il_0, il_1, il_2, il_3, il_5, il_6, il_8, il_9, il_10, il_20, il_60, il_99, il_161])) (fun U K U2 K2 x r h => ?_) (fun v y v0 v1 => by unfold CLR; omega)
      have F := G
      simp (disch := first | decide | omega | (simp (disch := first | decide | omega) only [sv_s, sv_o, ur_s, ur_e, ur_o]; omega)) only [↓reduceIte, iv_add, iv_sub, iv_mul, iv_neg, iv_ltT, iv_ltF, iv_leT, iv_leF, iv_eqT, iv_eqF, iv_div, iv_mod, ↓bnI_s, ↓bnV_s, ↓bnJ_s, ↓bnR_s, rt_e, rt_0, rt_bz, sv_s, sv_o, ur_s, ur_e, ur_o, bz_T, bz_F, nat_eqF, Nat.reduceAdd, ↓q_M_body, ↓gd_435 F, il_0, il_1, il_2, il_3, il_4, il_5, il_6, il_7, il_9, il_27, il_60, il_98, il_99, il_101, il_104, il_105, il_107, il_112, il_116, il_119, il_121, h]
    · refine cl_2 (σ := 6) (h1 := 5) (lo2 := 0) (hi2 := 5) (wd := 9) F G S P hi' hr hc ⟨hn.1, b3⟩ k ⟨rfl, by decide⟩ (by decide) (by decide) (fun V => by (rw [q_Reader_readClause]; simp (disch := first | decide | omega | (simp (disch := first | decide | omega) only [sv_s, sv_o, ur_s, ur_e, ur_o]; omega)) only [↓reduceIte, iv_add, iv_sub, iv_mul, iv_neg, iv_ltT, iv_ltF, iv_leT, iv_leF, iv_eqT, iv_eqF, iv_div, iv_mod, ↓bnI_s, ↓bnV_s, ↓bnJ_s, ↓bnR_s, rt_e, rt_0, rt_bz, sv_s, sv_o, ur_s, ur_e, ur_o, bz_T, bz_F, nat_eqF, Nat.reduceAdd, ↓gd_424 F, il_0, il_1, il_2, il_3, il_5, il_6, il_8, il_9, il_10, il_20, il_60, il_99, il_161]); rfl) (fun U K U2 K2 x r h r1 r2 => ?_) (fun U K U2 K2 x h iw => ?_) (fun U K U2 K2 U3 K3 U4 K4 x r h iw nx h2 => ?_) (fun a b a0 a1 b0 b1 => by unfold CLR; omega)
      · have F := G
        simp (disch := first | decide | omega | (simp (disch := first | decide | omega) only [sv_s, sv_o, ur_s, ur_e, ur_o]; omega)) only [↓reduceIte, iv_add, iv_sub, iv_mul, iv_neg, iv_ltT, iv_ltF, iv_leT, iv_leF, iv_eqT, iv_eqF, iv_div, iv_mod, ↓bnI_s, ↓bnV_s, ↓bnJ_s, ↓bnR_s, rt_e, rt_0, rt_bz, sv_s, sv_o, ur_s, ur_e, ur_o, bz_T, bz_F, nat_eqF, Nat.reduceAdd, ↓q_M_body, ↓q_M_pair, ↓gd_435 F, il_0, il_1, il_2, il_3, il_4, il_5, il_6, il_7, il_9, il_27, il_60, il_98, il_99, il_101, il_104, il_105, il_107, il_112, il_116, il_119, il_121, lw_9, h]
      · have F := G
        simp (disch := first | decide | omega | (simp (disch := first | decide | omega) only [sv_s, sv_o, ur_s, ur_e, ur_o]; omega)) only [↓reduceIte, iv_add, iv_sub, iv_mul, iv_neg, iv_ltT, iv_ltF, iv_leT, iv_leF, iv_eqT, iv_eqF, iv_div, iv_mod, ↓bnI_s, ↓bnV_s, ↓bnJ_s, ↓bnR_s, rt_e, rt_0, rt_bz, sv_s, sv_o, ur_s, ur_e, ur_o, bz_T, bz_F, nat_eqF, Nat.reduceAdd, ↓q_M_body, ↓q_M_pair, ↓gd_435 F, il_0, il_1, il_2, il_3, il_4, il_5, il_6, il_7, il_9, il_27, il_60, il_98, il_99, il_101, il_104, il_105, il_107, il_112, il_116, il_119, il_121, lw_9, h, iw]
      · have F := G
        simp (disch := first | decide | omega | (simp (disch := first | decide | omega) only [sv_s, sv_o, ur_s, ur_e, ur_o]; omega)) only [↓reduceIte, iv_add, iv_sub, iv_mul, iv_neg, iv_ltT, iv_ltF, iv_leT, iv_leF, iv_eqT, iv_eqF, iv_div, iv_mod, ↓bnI_s, ↓bnV_s, ↓bnJ_s, ↓bnR_s, rt_e, rt_0, rt_bz, sv_s, sv_o, ur_s, ur_e, ur_o, bz_T, bz_F, nat_eqF, Nat.reduceAdd, ↓q_M_body, ↓q_M_pair, ↓gd_435 F, il_0, il_1, il_2, il_3, il_4, il_5, il_6, il_7, il_9, il_27, il_60, il_98, il_99, il_101, il_104, il_105, il_107, il_112, il_116, il_119, il_121, lw_9, h, iw, nx, h2]
    · refine cl_1 (σ := 7) (lo := 1) (hi := 60) F G S P hi' hr hc ⟨hn.1, b3⟩ k ⟨rfl, by decide⟩ (by decide) (fun V => by (rw [q_Reader_readClause]; simp (disch := first | decide | omega | (simp (disch := first | decide | omega) only [sv_s, sv_o, ur_s, ur_e, ur_o]; omega)) only [↓reduceIte, iv_add, iv_sub, iv_mul, iv_neg, iv_ltT, iv_ltF, iv_leT, iv_leF, iv_eqT, iv_eqF, iv_div, iv_mod, ↓bnI_s, ↓bnV_s, ↓bnJ_s, ↓bnR_s, rt_e, rt_0, rt_bz, sv_s, sv_o, ur_s, ur_e, ur_o, bz_T, bz_F, nat_eqF, Nat.reduceAdd, ↓gd_424 F, il_0, il_1, il_2, il_3, il_5, il_6, il_8, il_9, il_10, il_20, il_60, il_99, il_161])) (fun U K U2 K2 x r h => ?_) (fun v y v0 v1 => by unfold CLR; omega)
      have F := G
      simp (disch := first | decide | omega | (simp (disch := first | decide | omega) only [sv_s, sv_o, ur_s, ur_e, ur_o]; omega)) only [↓reduceIte, iv_add, iv_sub, iv_mul, iv_neg, iv_ltT, iv_ltF, iv_leT, iv_leF, iv_eqT, iv_eqF, iv_div, iv_mod, ↓bnI_s, ↓bnV_s, ↓bnJ_s, ↓bnR_s, rt_e, rt_0, rt_bz, sv_s, sv_o, ur_s, ur_e, ur_o, bz_T, bz_F, nat_eqF, Nat.reduceAdd, ↓q_M_body, ↓gd_435 F, il_0, il_1, il_2, il_3, il_4, il_5, il_6, il_7, il_9, il_27, il_60, il_98, il_99, il_101, il_104, il_105, il_107, il_112, il_116, il_119, il_121, h]
end
