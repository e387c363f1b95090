/-! THE READING: the whole tape -/
theorem bn_VI {x : Rs} {g : Int32 → Mem → Rs} {f : Mem → Rs} : bnI x (fun w h => bnV (g w h) f) = bnV (bnI x g) f := by
  unfold bnI
  split <;> rfl
section
variable {V J : Vm} {z zm : Zz} {s : Sm} {i n c ra ba x : Int}
def OutT (zm : Zz) (s : Sm) (V V' : Vm) (i n c ra ba : Int) : Prop :=
  (∃ n' c' ra' ba', Cc V' s (sM s) n' c' ra' ba' ∧ (0 ≤ n' ∧ n' ≤ 24 ∧ 0 ≤ c' ∧ c' ≤ 300) ∧ ∀ U K w on, Uc U K s i n w on → Rt V U s i n c w ra ba on → ∃ U' K' w' on', rX m_M_readText m_M_readText 43 [.ref 435, dd] [] (em U K zm) = some (.int (iv 0), em U' K' zm) ∧ Uc U' K' s (sM s) n' w' on' ∧ Rt V' U' s (sM s) n' c' w' ra' ba' on' ∧ frW s U U') ∨
  ∃ j f, Cd V' s f (sP s j) ∧ (0 ≤ j ∧ j ≤ sM s) ∧ ∀ U K w on, Uc U K s i n w on → Rt V U s i n c w ra ba on → ∃ U' K', rX m_M_readText m_M_readText 43 [.ref 435, dd] [] (em U K zm) = some (.int (iv f), em U' K' zm) ∧ U' 435 8 = sP s j ∧ frW s U U'
theorem y_tape_l (F : Fix z) (G : Fix zm) (S : SO s) (J : Vm) : ∀ (m : Nat) (V : Vm) (i n c ra ba x : Int), Cc V s i n c ra ba → (0 ≤ i ∧ i ≤ sM s) → (-1 ≤ ra ∧ ra ≤ 400 ∧ -1 ≤ ba ∧ ba ≤ 400) → (0 ≤ c ∧ c ≤ i) → (0 ≤ n ∧ n ≤ 24) → sM s - i ≤ m → (0 ≤ x ∧ x ≤ i) → ∃ V', rX m_Reader_readTape m_Reader_readTape 44 [.ref 424, .int (iv x)] [] (em V J z) = rX m_Reader_readTape m_Reader_readTape 81 [.ref 424, dd] [] (em V' J z) ∧ frC V V' ∧ OutT zm s V V' i n c ra ba := by
  intro m
  induction m with
  | zero =>
    intro V i n c ra ba x P hi hr hc hn hm hx
    have e : i = sM s := by omega
    have S1 := S.1
    have k40 : sK s i = 40 := (S.2.2.2 i hi.1 hi.2).2.2.mpr e
    obtain ⟨p1, p2, p3, p4, p5, p6, p7⟩ := P
    have kd := z_kind (J := J) F S p1 p2 hi
    rw [k40] at kd
    refine ⟨V, ?_, frC.rfl_, Or.inl ⟨n, c, ra, ba, by rw [← e]; exact ⟨p1, p2, p3, p4, p5, p6, p7⟩, by omega, fun U K w on hu R => ⟨U, K, w, on, ?_, by rw [← e]; exact hu, by rw [← e]; exact R, frW.rfl_⟩⟩⟩
    · conv => lhs; rw [q_Reader_readTape_44]
      simp (disch := first | decide | omega | (simp (disch := first | decide | omega) only [sv_s, sv_o, ur_s, ur_e, ur_o]; omega)) only [↓reduceIte, iv_add, iv_sub, iv_mul, iv_neg, iv_ltT, iv_ltF, iv_leT, iv_leF, iv_eqT, iv_eqF, iv_div, iv_mod, ↓bnI_s, ↓bnV_s, ↓bnJ_s, ↓bnR_s, rt_e, rt_0, rt_bz, sv_s, sv_o, ur_s, ur_e, ur_o, bz_T, bz_F, nat_eqF, Nat.reduceAdd, ↓gI_424_9 F, il_0, il_1, il_4, il_9, il_40, il_44, il_81, il_300, p3, kd]
    · have tt := hu.1.2.tt
      rw [k40] at tt
      have t0 : U 435 9 = 0 := by unfold Tt sgT at tt; omega
      have F := G
      (rw [q_M_readText_43]; simp (disch := first | decide | omega | (simp (disch := first | decide | omega) only [sv_s, sv_o, ur_s, ur_e, ur_o]; omega)) only [↓reduceIte, iv_add, iv_sub, iv_mul, iv_neg, iv_ltT, iv_ltF, iv_leT, iv_leF, iv_eqT, iv_eqF, iv_div, iv_mod, ↓bnI_s, ↓bnV_s, ↓bnJ_s, ↓bnR_s, rt_e, rt_0, rt_bz, sv_s, sv_o, ur_s, ur_e, ur_o, bz_T, bz_F, nat_eqF, Nat.reduceAdd, ↓gI_435_9 F, il_0, il_1, il_9, il_11, il_43, t0])
  | succ m ih =>
    intro V i n c ra ba x P hi hr hc hn hm hx
    have S1 := S.1
    by_cases k40 : sK s i = 40
    · have e : i = sM s := (S.2.2.2 i hi.1 hi.2).2.2.mp k40
      obtain ⟨p1, p2, p3, p4, p5, p6, p7⟩ := P
      have kd := z_kind (J := J) F S p1 p2 hi
      rw [k40] at kd
      refine ⟨V, ?_, frC.rfl_, Or.inl ⟨n, c, ra, ba, by rw [← e]; exact ⟨p1, p2, p3, p4, p5, p6, p7⟩, by omega, fun U K w on hu R => ⟨U, K, w, on, ?_, by rw [← e]; exact hu, by rw [← e]; exact R, frW.rfl_⟩⟩⟩
      · conv => lhs; rw [q_Reader_readTape_44]
        simp (disch := first | decide | omega | (simp (disch := first | decide | omega) only [sv_s, sv_o, ur_s, ur_e, ur_o]; omega)) only [↓reduceIte, iv_add, iv_sub, iv_mul, iv_neg, iv_ltT, iv_ltF, iv_leT, iv_leF, iv_eqT, iv_eqF, iv_div, iv_mod, ↓bnI_s, ↓bnV_s, ↓bnJ_s, ↓bnR_s, rt_e, rt_0, rt_bz, sv_s, sv_o, ur_s, ur_e, ur_o, bz_T, bz_F, nat_eqF, Nat.reduceAdd, ↓gI_424_9 F, il_0, il_1, il_4, il_9, il_40, il_44, il_81, il_300, p3, kd]
      · have tt := hu.1.2.tt
        rw [k40] at tt
        have t0 : U 435 9 = 0 := by unfold Tt sgT at tt; omega
        have F := G
        (rw [q_M_readText_43]; simp (disch := first | decide | omega | (simp (disch := first | decide | omega) only [sv_s, sv_o, ur_s, ur_e, ur_o]; omega)) only [↓reduceIte, iv_add, iv_sub, iv_mul, iv_neg, iv_ltT, iv_ltF, iv_leT, iv_leF, iv_eqT, iv_eqF, iv_div, iv_mod, ↓bnI_s, ↓bnV_s, ↓bnJ_s, ↓bnR_s, rt_e, rt_0, rt_bz, sv_s, sv_o, ur_s, ur_e, ur_o, bz_T, bz_F, nat_eqF, Nat.reduceAdd, ↓gI_435_9 F, il_0, il_1, il_9, il_11, il_43, t0])
    · have im := S.lt hi.1 hi.2 k40
      obtain ⟨V1, e1, e2, out⟩ := y_clause (J := J) F G S P hi hr hc hn
      have kr := (S.rg hi.1 hi.2).2.2.1
      have k40' : sK s i < 40 ∨ 40 < sK s i := by omega
      have st : rX m_Reader_readTape m_Reader_readTape 44 [.ref 424, .int (iv x)] [] (em V J z) = rX m_Reader_readTape m_Reader_readTape 44 [.ref 424, .int (iv (x + 1))] [] (em V1 J z) := by
        have kd := z_kind (J := J) F S P.1 P.2.1 hi
        have p3 := P.2.2.1
        have x300 : iv x ≤ (300 : Int32) := of_eq_true (iv_leT (a := x) (b := 300) (by omega))
        have n40 : ¬ iv (sK s i) = (40 : Int32) := of_eq_false (iv_eqF (a := sK s i) (b := 40) (by omega))
        conv => lhs; rw [q_Reader_readTape_44, if_pos x300, gI_424_9 F, p3, if_pos (show iv 0 = 0 from rfl), kd, bnI_s, if_neg n40, bn_VI, e1, bnV_s, il_1, iv_add x 1]
      rw [st]
      rcases out with ⟨j, c', ra', ba', o1, o2, o3, o4, o5, o6⟩ | ⟨j, f, o1, o2, o3⟩
      · obtain ⟨V', f1, f2, f3⟩ := ih V1 j (n + 1) c' ra' ba' (x + 1) o1 (by omega) o5 o4 (by omega) (by omega) (by omega)
        have ms : ∀ U K w on, Uc U K s i n w on → Rt V U s i n c w ra ba on → ∃ U1 K1 w1 on1, rX m_M_readText m_M_readText 43 [.ref 435, dd] [] (em U K zm) = rX m_M_readText m_M_readText 43 [.ref 435, dd] [] (em U1 K1 zm) ∧ Uc U1 K1 s j (n + 1) w1 on1 ∧ Rt V1 U1 s j (n + 1) c' w1 ra' ba' on1 ∧ frW s U U1 := by
          intro U K w on hu R
          obtain ⟨U1, K1, w1, on1, g1, g2, g3, g4⟩ := o6 U K w on hu R
          have tt := hu.1.2.tt
          have t0 : U 435 9 ≠ 0 := by
            have tg := tt
            unfold Tt sgT at tg; omega
          have tr := tt.rg.2
          have n0 : ¬ iv (U 435 9) = (0 : Int32) := of_eq_false (iv_eqF (a := U 435 9) (b := 0) (by omega))
          refine ⟨U1, K1, w1, on1, ?_, g2, g3, g4⟩
          conv => lhs; rw [q_M_readText_43, gI_435_9 G, if_neg n0, g1, bnI_s, if_pos (show iv 0 = 0 from rfl)]
        refine ⟨V', f1, e2.tr f2, ?_⟩
        rcases f3 with ⟨n', c2, ra2, ba2, u1, u0, u2⟩ | ⟨j2, f, u1, u0, u2⟩
        · refine Or.inl ⟨n', c2, ra2, ba2, u1, u0, fun U K w on hu R => ?_⟩
          obtain ⟨U1, K1, w1, on1, g1, g2, g3, g4⟩ := ms U K w on hu R
          obtain ⟨U2, K2, w2, on2, d1, d2, d3, d4⟩ := u2 U1 K1 w1 on1 g2 g3
          exact ⟨U2, K2, w2, on2, g1.trans d1, d2, d3, g4.tr d4⟩
        · refine Or.inr ⟨j2, f, u1, u0, fun U K w on hu R => ?_⟩
          obtain ⟨U1, K1, w1, on1, g1, g2, g3, g4⟩ := ms U K w on hu R
          obtain ⟨U2, K2, d1, d2, d3⟩ := u2 U1 K1 w1 on1 g2 g3
          exact ⟨U2, K2, g1.trans d1, d2, g4.tr d3⟩
      · refine ⟨V1, ?_, e2, Or.inr ⟨j, f, o1, by omega, fun U K w on hu R => ?_⟩⟩
        · obtain ⟨d1, d2, ⟨d3, d3a, d3b⟩, d4, d5⟩ := o1
          conv => lhs; rw [q_Reader_readTape_44]
          have q : x + 1 ≤ 300 := by omega
          simp (disch := first | decide | omega | (simp (disch := first | decide | omega) only [sv_s, sv_o, ur_s, ur_e, ur_o]; omega)) only [↓reduceIte, iv_add, iv_sub, iv_mul, iv_neg, iv_ltT, iv_ltF, iv_leT, iv_leF, iv_eqT, iv_eqF, iv_div, iv_mod, ↓bnI_s, ↓bnV_s, ↓bnJ_s, ↓bnR_s, rt_e, rt_0, rt_bz, sv_s, sv_o, ur_s, ur_e, ur_o, bz_T, bz_F, nat_eqF, Nat.reduceAdd, ↓gI_424_9 F, il_0, il_1, il_4, il_9, il_40, il_44, il_81, il_300, d3]
        · obtain ⟨U1, K1, g1, g2, g3⟩ := o3 U K w on hu R
          have tt := hu.1.2.tt
          have t0 : U 435 9 ≠ 0 := by
            have tg := tt
            unfold Tt sgT at tg; omega
          have tr := tt.rg.2
          have f0 := o1.2.2.1.2
          have n0 : ¬ iv (U 435 9) = (0 : Int32) := of_eq_false (iv_eqF (a := U 435 9) (b := 0) (by omega))
          have nf : ¬ iv f = (0 : Int32) := of_eq_false (iv_eqF (a := f) (b := 0) (by omega))
          refine ⟨U1, K1, ?_, g2, g3⟩
          rw [q_M_readText_43, gI_435_9 G, if_neg n0, g1, bnI_s, if_neg nf]
end
