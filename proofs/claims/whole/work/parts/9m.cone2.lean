/-! THE READING: a ONE in the class; all of it, by depth -/
theorem g_23i {d k : Int} {r : Rs} (hd : 0 ≤ d ∧ d ≤ 7) : grd (true && Nat.blt (rkk m_Reader_readOpen [.ref 424, .int (iv k), .int (iv (d + 1))]) (rkk m_Reader_readOne [.ref 424, .int (iv d)])) r = r := by
  exact grd_t (by rw [rkk_hi (M := m_Reader_readOpen) (by decide) (by decide), rkk_hi (M := m_Reader_readOne) (by decide) (by decide), dpt_2 (by omega), dpt_3 (by omega)]; show 156 + _ < 149 + _; omega)
section
variable {V V1 V3 J : Vm} {z zm : Zz} {s : Sm} {i j j2 c c2 d g f : Int} {M M2 : (Int → Int) → Int → Int}
theorem y_one (F : Fix z) (G : Fix zm) (S : SO s) (hd : 0 ≤ d ∧ d ≤ 8) (O : d < 8 → SpOn z zm s (d + 1)) (A : d < 8 → SpA z zm s m_Reader_readSum 5 (d + 1)) (E : d < 8 → SpQ z zm s m_Reader_readEither 1 (d + 1)) : SpOn z zm s d := by
  intro V J i c P hc
  have S1 := S.1
  have P0 := P
  obtain ⟨p1, p2, p3, p4, p5⟩ := P0
  have kd := y_kind (J := J) F S p1 (by omega)
  rw [p2] at kd
  have rg := S.rg (j := i) (by omega) hc.2.2
  have kr := rg.2.2.1
  have vr := rg.2.2.2
  by_cases k38 : sK s i = 38
  · rw [k38] at kd
    have im := S.lt (i := i) (by omega) hc.2.2 (by omega)
    by_cases v9 : sV s i ≤ 9999
    · have nu := y_numok (J := J) F S P (by omega) k38 rfl (lo := 0) (hi := 9999) (by omega) (by omega)
      have ce := y_cemit (V := sv V 424 8 (i + 1)) (J := J) (x := 38) (y := sV s i) F (by simp (disch := first | decide | omega | (simp (disch := first | decide | omega) only [sv_s, sv_o, ur_s, ur_e, ur_o]; omega)) only [↓reduceIte, iv_add, iv_sub, iv_mul, iv_neg, iv_ltT, iv_ltF, iv_leT, iv_leF, iv_eqT, iv_eqF, iv_div, iv_mod, ↓bnI_s, ↓bnV_s, ↓bnJ_s, ↓bnR_s, rt_e, rt_0, rt_bz, sv_s, sv_o, ur_s, ur_e, ur_o, bz_T, bz_F, nat_eqF, Nat.reduceAdd]; omega)
      have eW : cem (sv V 424 8 (i + 1)) (38 + 64 * sV s i) = sv (sv (sv V 424 8 (i + 1)) 426 c (38 + 64 * sV s i)) 424 4 (c + 1) := cem_in (by simp (disch := first | decide | omega | (simp (disch := first | decide | omega) only [sv_s, sv_o, ur_s, ur_e, ur_o]; omega)) only [↓reduceIte, iv_add, iv_sub, iv_mul, iv_neg, iv_ltT, iv_ltF, iv_leT, iv_leF, iv_eqT, iv_eqF, iv_div, iv_mod, ↓bnI_s, ↓bnV_s, ↓bnJ_s, ↓bnR_s, rt_e, rt_0, rt_bz, sv_s, sv_o, ur_s, ur_e, ur_o, bz_T, bz_F, nat_eqF, Nat.reduceAdd]; exact p4) (by omega)
      rw [eW] at ce
      refine ⟨sv (sv (sv V 424 8 (i + 1)) 426 c (38 + 64 * sV s i)) 424 4 (c + 1), ?_, Or.inl ⟨i + 1, c + 1, 1, fun _ _ => sV s i, ⟨⟨(((frR.w (by omega)).tr frR.w6).tr (frR.w (by omega))).cs p1, by simp (disch := first | decide | omega | (simp (disch := first | decide | omega) only [sv_s, sv_o, ur_s, ur_e, ur_o]; omega)) only [↓reduceIte, iv_add, iv_sub, iv_mul, iv_neg, iv_ltT, iv_ltF, iv_leT, iv_leF, iv_eqT, iv_eqF, iv_div, iv_mod, ↓bnI_s, ↓bnV_s, ↓bnJ_s, ↓bnR_s, rt_e, rt_0, rt_bz, sv_s, sv_o, ur_s, ur_e, ur_o, bz_T, bz_F, nat_eqF, Nat.reduceAdd], by simp (disch := first | decide | omega | (simp (disch := first | decide | omega) only [sv_s, sv_o, ur_s, ur_e, ur_o]; omega)) only [↓reduceIte, iv_add, iv_sub, iv_mul, iv_neg, iv_ltT, iv_ltF, iv_leT, iv_leF, iv_eqT, iv_eqF, iv_div, iv_mod, ↓bnI_s, ↓bnV_s, ↓bnJ_s, ↓bnR_s, rt_e, rt_0, rt_bz, sv_s, sv_o, ur_s, ur_e, ur_o, bz_T, bz_F, nat_eqF, Nat.reduceAdd]; exact p3, by simp (disch := first | decide | omega | (simp (disch := first | decide | omega) only [sv_s, sv_o, ur_s, ur_e, ur_o]; omega)) only [↓reduceIte, iv_add, iv_sub, iv_mul, iv_neg, iv_ltT, iv_ltF, iv_leT, iv_leF, iv_eqT, iv_eqF, iv_div, iv_mod, ↓bnI_s, ↓bnV_s, ↓bnJ_s, ↓bnR_s, rt_e, rt_0, rt_bz, sv_s, sv_o, ur_s, ur_e, ur_o, bz_T, bz_F, nat_eqF, Nat.reduceAdd], by simp (disch := first | decide | omega | (simp (disch := first | decide | omega) only [sv_s, sv_o, ur_s, ur_e, ur_o]; omega)) only [↓reduceIte, iv_add, iv_sub, iv_mul, iv_neg, iv_ltT, iv_ltF, iv_leT, iv_leF, iv_eqT, iv_eqF, iv_div, iv_mod, ↓bnI_s, ↓bnV_s, ↓bnJ_s, ↓bnR_s, rt_e, rt_0, rt_bz, sv_s, sv_o, ur_s, ur_e, ur_o, bz_T, bz_F, nat_eqF, Nat.reduceAdd]; exact p5⟩, ((frR.w (by omega)).tr frR.w6).tr (frR.w (by omega)), by omega, by omega, fun q hq => by simp (disch := first | decide | omega | (simp (disch := first | decide | omega) only [sv_s, sv_o, ur_s, ur_e, ur_o]; omega)) only [↓reduceIte, iv_add, iv_sub, iv_mul, iv_neg, iv_ltT, iv_ltF, iv_leT, iv_leF, iv_eqT, iv_eqF, iv_div, iv_mod, ↓bnI_s, ↓bnV_s, ↓bnJ_s, ↓bnR_s, rt_e, rt_0, rt_bz, sv_s, sv_o, ur_s, ur_e, ur_o, bz_T, bz_F, nat_eqF, Nat.reduceAdd]⟩, by omega, CE_num (by omega) ⟨vr.1, v9⟩ (by simp (disch := first | decide | omega | (simp (disch := first | decide | omega) only [sv_s, sv_o, ur_s, ur_e, ur_o]; omega)) only [↓reduceIte, iv_add, iv_sub, iv_mul, iv_neg, iv_ltT, iv_ltF, iv_leT, iv_leF, iv_eqT, iv_eqF, iv_div, iv_mod, ↓bnI_s, ↓bnV_s, ↓bnJ_s, ↓bnR_s, rt_e, rt_0, rt_bz, sv_s, sv_o, ur_s, ur_e, ur_o, bz_T, bz_F, nat_eqF, Nat.reduceAdd]), ?_, MoO.num G S ⟨by omega, im⟩ k38 v9⟩⟩
      · generalize sv (sv (sv V 424 8 (i + 1)) 426 c (38 + 64 * sV s i)) 424 4 (c + 1) = W at *
        (rw [q_Reader_readOne]; simp (disch := first | decide | omega | (simp (disch := first | decide | omega) only [sv_s, sv_o, ur_s, ur_e, ur_o]; omega)) only [↓reduceIte, iv_add, iv_sub, iv_mul, iv_neg, iv_ltT, iv_ltF, iv_leT, iv_leF, iv_eqT, iv_eqF, iv_div, iv_mod, ↓bnI_s, ↓bnV_s, ↓bnJ_s, ↓bnR_s, rt_e, rt_0, rt_bz, sv_s, sv_o, ur_s, ur_e, ur_o, bz_T, bz_F, nat_eqF, Nat.reduceAdd, ↓gI_424_9 F, ↓gI_424_8 F, ↓pI_424_8 F, ↓gd_424 F, il_0, il_1, il_3, il_4, il_8, il_9, il_20, il_38, il_9999, ↓g_lo, kd, p3, nu, ce])
      · intro V' t A' k _ _
        show Bd (sV s i)
        unfold Bd
        omega
    · have nu := y_numout (J := J) F S P (by omega) k38 (lo := 0) (hi := 9999) (by omega) (by omega)
      have fl := P.fail S hc (f := 2) (by decide)
      have ce := y_cemit (J := J) (x := 38) (y := sV s i) F fl.1.2.2.2.2
      refine ⟨_, ?_, Or.inr ⟨i, 2, fl.cem_ (w := 38 + 64 * sV s i), MnO.same (fun U K p w k0 m hp ha => l_fail2 G m.1 m.2.1 k38 (by omega))⟩⟩
      generalize cem (sv (sv V 424 9 2) 424 10 (sP s i)) (38 + 64 * sV s i) = W at *
      (rw [q_Reader_readOne]; simp (disch := first | decide | omega | (simp (disch := first | decide | omega) only [sv_s, sv_o, ur_s, ur_e, ur_o]; omega)) only [↓reduceIte, iv_add, iv_sub, iv_mul, iv_neg, iv_ltT, iv_ltF, iv_leT, iv_leF, iv_eqT, iv_eqF, iv_div, iv_mod, ↓bnI_s, ↓bnV_s, ↓bnJ_s, ↓bnR_s, rt_e, rt_0, rt_bz, sv_s, sv_o, ur_s, ur_e, ur_o, bz_T, bz_F, nat_eqF, Nat.reduceAdd, ↓gI_424_9 F, ↓gI_424_8 F, ↓pI_424_8 F, ↓gd_424 F, il_0, il_1, il_3, il_4, il_8, il_9, il_20, il_38, il_9999, ↓g_lo, kd, p3, nu, ce])
  · have k38' : sK s i < 38 ∨ 38 < sK s i := by omega
    have isn := y_isName (k := sK s i) (h := em V J z) (by omega)
    by_cases nm : sK s i = 3 ∨ (10 ≤ sK s i ∧ sK s i ≤ 15)
    · rw [bz_T nm] at isn
      have im := S.lt (i := i) (by omega) hc.2.2 (by omega)
      have sL01 := S.2.2.1
      by_cases bad : (sK s i = 14 ∧ sL s = 1) ∨ (sK s i = 15 ∧ sL s = 0)
      · have fl0 := y_fail0 (J := J) (f := 5) F S P (by omega)
        have fl := P.fail S hc (f := 5) (by decide)
        refine ⟨_, ?_, Or.inr ⟨i, 5, fl, MnO.same (fun U K p w k0 m hp ha => l_fail5 G S m.1 m.2.1 bad)⟩⟩
        rcases bad with ⟨b1, b2⟩ | ⟨b1, b2⟩
        · rw [b1] at kd isn
          rw [b2] at p5
          (rw [q_Reader_readOne]; simp (disch := first | decide | omega | (simp (disch := first | decide | omega) only [sv_s, sv_o, ur_s, ur_e, ur_o]; omega)) only [↓reduceIte, iv_add, iv_sub, iv_mul, iv_neg, iv_ltT, iv_ltF, iv_leT, iv_leF, iv_eqT, iv_eqF, iv_div, iv_mod, ↓bnI_s, ↓bnV_s, ↓bnJ_s, ↓bnR_s, rt_e, rt_0, rt_bz, sv_s, sv_o, ur_s, ur_e, ur_o, bz_T, bz_F, nat_eqF, Nat.reduceAdd, ↓gI_424_9 F, ↓gI_424_8 F, ↓pI_424_8 F, ↓gd_424 F, ↓gI_424_7 F, il_0, il_1, il_3, il_4, il_5, il_7, il_8, il_9, il_13, il_14, il_15, il_20, il_38, il_9999, ↓g_lo, ↓q_Reader_readName, ↓q_Reader_readName_13, kd, p3, isn, p5, fl0])
        · rw [b1] at kd isn
          rw [b2] at p5
          (rw [q_Reader_readOne]; simp (disch := first | decide | omega | (simp (disch := first | decide | omega) only [sv_s, sv_o, ur_s, ur_e, ur_o]; omega)) only [↓reduceIte, iv_add, iv_sub, iv_mul, iv_neg, iv_ltT, iv_ltF, iv_leT, iv_leF, iv_eqT, iv_eqF, iv_div, iv_mod, ↓bnI_s, ↓bnV_s, ↓bnJ_s, ↓bnR_s, rt_e, rt_0, rt_bz, sv_s, sv_o, ur_s, ur_e, ur_o, bz_T, bz_F, nat_eqF, Nat.reduceAdd, ↓gI_424_9 F, ↓gI_424_8 F, ↓pI_424_8 F, ↓gd_424 F, ↓gI_424_7 F, il_0, il_1, il_3, il_4, il_5, il_7, il_8, il_9, il_13, il_14, il_15, il_20, il_38, il_9999, ↓g_lo, ↓q_Reader_readName, ↓q_Reader_readName_13, kd, p3, isn, p5, fl0])
      · have ce := y_cemit (V := V) (J := J) (x := sK s i) (y := 0) F (by omega)
        have eW : cem V (sK s i + 64 * 0) = sv (sv V 426 c (sK s i)) 424 4 (c + 1) := by rw [cem_in p4 (by omega), show sK s i + 64 * 0 = sK s i by omega]
        rw [eW] at ce
        refine ⟨sv (sv (sv V 426 c (sK s i)) 424 4 (c + 1)) 424 8 (i + 1), ?_, Or.inl ⟨i + 1, c + 1, 1, fun A k => nmV A k (sK s i), ⟨⟨((frR.w6.tr (frR.w (by omega))).tr (frR.w (by omega))).cs p1, by simp (disch := first | decide | omega | (simp (disch := first | decide | omega) only [sv_s, sv_o, ur_s, ur_e, ur_o]; omega)) only [↓reduceIte, iv_add, iv_sub, iv_mul, iv_neg, iv_ltT, iv_ltF, iv_leT, iv_leF, iv_eqT, iv_eqF, iv_div, iv_mod, ↓bnI_s, ↓bnV_s, ↓bnJ_s, ↓bnR_s, rt_e, rt_0, rt_bz, sv_s, sv_o, ur_s, ur_e, ur_o, bz_T, bz_F, nat_eqF, Nat.reduceAdd], by simp (disch := first | decide | omega | (simp (disch := first | decide | omega) only [sv_s, sv_o, ur_s, ur_e, ur_o]; omega)) only [↓reduceIte, iv_add, iv_sub, iv_mul, iv_neg, iv_ltT, iv_ltF, iv_leT, iv_leF, iv_eqT, iv_eqF, iv_div, iv_mod, ↓bnI_s, ↓bnV_s, ↓bnJ_s, ↓bnR_s, rt_e, rt_0, rt_bz, sv_s, sv_o, ur_s, ur_e, ur_o, bz_T, bz_F, nat_eqF, Nat.reduceAdd]; exact p3, by simp (disch := first | decide | omega | (simp (disch := first | decide | omega) only [sv_s, sv_o, ur_s, ur_e, ur_o]; omega)) only [↓reduceIte, iv_add, iv_sub, iv_mul, iv_neg, iv_ltT, iv_ltF, iv_leT, iv_leF, iv_eqT, iv_eqF, iv_div, iv_mod, ↓bnI_s, ↓bnV_s, ↓bnJ_s, ↓bnR_s, rt_e, rt_0, rt_bz, sv_s, sv_o, ur_s, ur_e, ur_o, bz_T, bz_F, nat_eqF, Nat.reduceAdd], by simp (disch := first | decide | omega | (simp (disch := first | decide | omega) only [sv_s, sv_o, ur_s, ur_e, ur_o]; omega)) only [↓reduceIte, iv_add, iv_sub, iv_mul, iv_neg, iv_ltT, iv_ltF, iv_leT, iv_leF, iv_eqT, iv_eqF, iv_div, iv_mod, ↓bnI_s, ↓bnV_s, ↓bnJ_s, ↓bnR_s, rt_e, rt_0, rt_bz, sv_s, sv_o, ur_s, ur_e, ur_o, bz_T, bz_F, nat_eqF, Nat.reduceAdd]; exact p5⟩, (frR.w6.tr (frR.w (by omega))).tr (frR.w (by omega)), by omega, by omega, fun q hq => by simp (disch := first | decide | omega | (simp (disch := first | decide | omega) only [sv_s, sv_o, ur_s, ur_e, ur_o]; omega)) only [↓reduceIte, iv_add, iv_sub, iv_mul, iv_neg, iv_ltT, iv_ltF, iv_leT, iv_leF, iv_eqT, iv_eqF, iv_div, iv_mod, ↓bnI_s, ↓bnV_s, ↓bnJ_s, ↓bnR_s, rt_e, rt_0, rt_bz, sv_s, sv_o, ur_s, ur_e, ur_o, bz_T, bz_F, nat_eqF, Nat.reduceAdd]⟩, by omega, CE_name (by omega) nm (by simp (disch := first | decide | omega | (simp (disch := first | decide | omega) only [sv_s, sv_o, ur_s, ur_e, ur_o]; omega)) only [↓reduceIte, iv_add, iv_sub, iv_mul, iv_neg, iv_ltT, iv_ltF, iv_leT, iv_leF, iv_eqT, iv_eqF, iv_div, iv_mod, ↓bnI_s, ↓bnV_s, ↓bnJ_s, ↓bnR_s, rt_e, rt_0, rt_bz, sv_s, sv_o, ur_s, ur_e, ur_o, bz_T, bz_F, nat_eqF, Nat.reduceAdd]), nm_MB, MoO.name_ G S ⟨by omega, im⟩ nm (by omega) (by omega)⟩⟩
        have kk : sK s i = 3 ∨ sK s i = 10 ∨ sK s i = 11 ∨ sK s i = 12 ∨ sK s i = 13 ∨ sK s i = 14 ∨ sK s i = 15 := by omega
        have a14 : sK s i = 14 → sL s = 0 := by omega
        have a15 : sK s i = 15 → sL s = 1 := by omega
        clear bad nm
        generalize hkk : sK s i = k at *
        rcases kk with rfl | rfl | rfl | rfl | rfl | rfl | rfl
        · (rw [q_Reader_readOne]; simp (disch := first | decide | omega | (simp (disch := first | decide | omega) only [sv_s, sv_o, ur_s, ur_e, ur_o]; omega)) only [↓reduceIte, iv_add, iv_sub, iv_mul, iv_neg, iv_ltT, iv_ltF, iv_leT, iv_leF, iv_eqT, iv_eqF, iv_div, iv_mod, ↓bnI_s, ↓bnV_s, ↓bnJ_s, ↓bnR_s, rt_e, rt_0, rt_bz, sv_s, sv_o, ur_s, ur_e, ur_o, bz_T, bz_F, nat_eqF, Nat.reduceAdd, ↓gI_424_9 F, ↓gI_424_8 F, ↓pI_424_8 F, ↓gd_424 F, ↓gI_424_7 F, il_0, il_1, il_3, il_4, il_5, il_7, il_8, il_9, il_13, il_14, il_15, il_20, il_38, il_9999, ↓g_lo, ↓q_Reader_readName, ↓q_Reader_readName_13, kd, p3, isn, ce, p2])
        · (rw [q_Reader_readOne]; simp (disch := first | decide | omega | (simp (disch := first | decide | omega) only [sv_s, sv_o, ur_s, ur_e, ur_o]; omega)) only [↓reduceIte, iv_add, iv_sub, iv_mul, iv_neg, iv_ltT, iv_ltF, iv_leT, iv_leF, iv_eqT, iv_eqF, iv_div, iv_mod, ↓bnI_s, ↓bnV_s, ↓bnJ_s, ↓bnR_s, rt_e, rt_0, rt_bz, sv_s, sv_o, ur_s, ur_e, ur_o, bz_T, bz_F, nat_eqF, Nat.reduceAdd, ↓gI_424_9 F, ↓gI_424_8 F, ↓pI_424_8 F, ↓gd_424 F, ↓gI_424_7 F, il_0, il_1, il_3, il_4, il_5, il_7, il_8, il_9, il_13, il_14, il_15, il_20, il_38, il_9999, ↓g_lo, ↓q_Reader_readName, ↓q_Reader_readName_13, kd, p3, isn, ce, p2])
        · (rw [q_Reader_readOne]; simp (disch := first | decide | omega | (simp (disch := first | decide | omega) only [sv_s, sv_o, ur_s, ur_e, ur_o]; omega)) only [↓reduceIte, iv_add, iv_sub, iv_mul, iv_neg, iv_ltT, iv_ltF, iv_leT, iv_leF, iv_eqT, iv_eqF, iv_div, iv_mod, ↓bnI_s, ↓bnV_s, ↓bnJ_s, ↓bnR_s, rt_e, rt_0, rt_bz, sv_s, sv_o, ur_s, ur_e, ur_o, bz_T, bz_F, nat_eqF, Nat.reduceAdd, ↓gI_424_9 F, ↓gI_424_8 F, ↓pI_424_8 F, ↓gd_424 F, ↓gI_424_7 F, il_0, il_1, il_3, il_4, il_5, il_7, il_8, il_9, il_13, il_14, il_15, il_20, il_38, il_9999, ↓g_lo, ↓q_Reader_readName, ↓q_Reader_readName_13, kd, p3, isn, ce, p2])
        · (rw [q_Reader_readOne]; simp (disch := first | decide | omega | (simp (disch := first | decide | omega) only [sv_s, sv_o, ur_s, ur_e, ur_o]; omega)) only [↓reduceIte, iv_add, iv_sub, iv_mul, iv_neg, iv_ltT, iv_ltF, iv_leT, iv_leF, iv_eqT, iv_eqF, iv_div, iv_mod, ↓bnI_s, ↓bnV_s, ↓bnJ_s, ↓bnR_s, rt_e, rt_0, rt_bz, sv_s, sv_o, ur_s, ur_e, ur_o, bz_T, bz_F, nat_eqF, Nat.reduceAdd, ↓gI_424_9 F, ↓gI_424_8 F, ↓pI_424_8 F, ↓gd_424 F, ↓gI_424_7 F, il_0, il_1, il_3, il_4, il_5, il_7, il_8, il_9, il_13, il_14, il_15, il_20, il_38, il_9999, ↓g_lo, ↓q_Reader_readName, ↓q_Reader_readName_13, kd, p3, isn, ce, p2])
        · (rw [q_Reader_readOne]; simp (disch := first | decide | omega | (simp (disch := first | decide | omega) only [sv_s, sv_o, ur_s, ur_e, ur_o]; omega)) only [↓reduceIte, iv_add, iv_sub, iv_mul, iv_neg, iv_ltT, iv_ltF, iv_leT, iv_leF, iv_eqT, iv_eqF, iv_div, iv_mod, ↓bnI_s, ↓bnV_s, ↓bnJ_s, ↓bnR_s, rt_e, rt_0, rt_bz, sv_s, sv_o, ur_s, ur_e, ur_o, bz_T, bz_F, nat_eqF, Nat.reduceAdd, ↓gI_424_9 F, ↓gI_424_8 F, ↓pI_424_8 F, ↓gd_424 F, ↓gI_424_7 F, il_0, il_1, il_3, il_4, il_5, il_7, il_8, il_9, il_13, il_14, il_15, il_20, il_38, il_9999, ↓g_lo, ↓q_Reader_readName, ↓q_Reader_readName_13, kd, p3, isn, ce, p2])
        · rw [a14 rfl] at p5
          (rw [q_Reader_readOne]; simp (disch := first | decide | omega | (simp (disch := first | decide | omega) only [sv_s, sv_o, ur_s, ur_e, ur_o]; omega)) only [↓reduceIte, iv_add, iv_sub, iv_mul, iv_neg, iv_ltT, iv_ltF, iv_leT, iv_leF, iv_eqT, iv_eqF, iv_div, iv_mod, ↓bnI_s, ↓bnV_s, ↓bnJ_s, ↓bnR_s, rt_e, rt_0, rt_bz, sv_s, sv_o, ur_s, ur_e, ur_o, bz_T, bz_F, nat_eqF, Nat.reduceAdd, ↓gI_424_9 F, ↓gI_424_8 F, ↓pI_424_8 F, ↓gd_424 F, ↓gI_424_7 F, il_0, il_1, il_3, il_4, il_5, il_7, il_8, il_9, il_13, il_14, il_15, il_20, il_38, il_9999, ↓g_lo, ↓q_Reader_readName, ↓q_Reader_readName_13, kd, p3, p5, isn, ce, p2])
        · rw [a15 rfl] at p5
          (rw [q_Reader_readOne]; simp (disch := first | decide | omega | (simp (disch := first | decide | omega) only [sv_s, sv_o, ur_s, ur_e, ur_o]; omega)) only [↓reduceIte, iv_add, iv_sub, iv_mul, iv_neg, iv_ltT, iv_ltF, iv_leT, iv_leF, iv_eqT, iv_eqF, iv_div, iv_mod, ↓bnI_s, ↓bnV_s, ↓bnJ_s, ↓bnR_s, rt_e, rt_0, rt_bz, sv_s, sv_o, ur_s, ur_e, ur_o, bz_T, bz_F, nat_eqF, Nat.reduceAdd, ↓gI_424_9 F, ↓gI_424_8 F, ↓pI_424_8 F, ↓gd_424 F, ↓gI_424_7 F, il_0, il_1, il_3, il_4, il_5, il_7, il_8, il_9, il_13, il_14, il_15, il_20, il_38, il_9999, ↓g_lo, ↓q_Reader_readName, ↓q_Reader_readName_13, kd, p3, p5, isn, ce, p2])
    · rw [bz_F nm] at isn
      have nno := nmO_none nm
      have opn1 := y_opensOne (k := sK s i) (h := em V J z) (by omega)
      by_cases op : sK s i = 33 ∨ sK s i = 30 ∨ (16 ≤ sK s i ∧ sK s i ≤ 18)
      · rw [bz_T op] at opn1
        have im := S.lt (i := i) (by omega) hc.2.2 (by omega)
        have kk : sK s i = 33 ∨ sK s i = 30 ∨ sK s i = 16 ∨ sK s i = 17 ∨ sK s i = 18 := by omega
        by_cases d8 : d = 8
        · have fl0 := y_fail0 (J := J) (f := 3) F S P (by omega)
          have fl := P.fail S hc (f := 3) (by decide)
          obtain ⟨o, ho⟩ : ∃ o : Int, (sK s i = 33 ∧ o = 40) ∨ (sK s i = 30 ∧ o = 5) ∨ (sK s i = 16 ∧ o = 2) ∨ (sK s i = 17 ∧ o = 4) ∨ (sK s i = 18 ∧ o = 41) := by
            rcases kk with h | h | h | h | h
            · exact ⟨40, by omega⟩
            · exact ⟨5, by omega⟩
            · exact ⟨2, by omega⟩
            · exact ⟨4, by omega⟩
            · exact ⟨41, by omega⟩
          refine ⟨_, ?_, Or.inr ⟨i, 3, fl, MnO.same (fun U K p w k0 m hp ha => (open_go G S m hd hp (by omega) ho).1 d8)⟩⟩
          clear ho kk op nm
          generalize sK s i = k at *
          subst d8
          (rw [q_Reader_readOne]; simp (disch := first | decide | omega | (simp (disch := first | decide | omega) only [sv_s, sv_o, ur_s, ur_e, ur_o]; omega)) only [↓reduceIte, iv_add, iv_sub, iv_mul, iv_neg, iv_ltT, iv_ltF, iv_leT, iv_leF, iv_eqT, iv_eqF, iv_div, iv_mod, ↓bnI_s, ↓bnV_s, ↓bnJ_s, ↓bnR_s, rt_e, rt_0, rt_bz, sv_s, sv_o, ur_s, ur_e, ur_o, bz_T, bz_F, nat_eqF, Nat.reduceAdd, ↓gI_424_9 F, ↓gI_424_8 F, ↓pI_424_8 F, ↓gd_424 F, il_0, il_1, il_3, il_4, il_8, il_9, il_20, il_38, il_9999, ↓g_lo, kd, p3, isn, opn1, fl0])
        · have d7 : d < 8 := by omega
          have rest : ∀ V' : Vm, cA m_Reader_readOpen [.ref 424, .int (iv (sK s i)), .int (iv (d + 1))] (em (sv V 424 8 (i + 1)) J z) = some (.null, em V' J z) → cA m_Reader_readOne [.ref 424, .int (iv d)] (em V J z) = some (.null, em V' J z) := by
            intro V' ho
            clear op nm kk
            generalize sK s i = k at *
            (rw [q_Reader_readOne]; simp (disch := first | decide | omega | (simp (disch := first | decide | omega) only [sv_s, sv_o, ur_s, ur_e, ur_o]; omega)) only [↓reduceIte, iv_add, iv_sub, iv_mul, iv_neg, iv_ltT, iv_ltF, iv_leT, iv_leF, iv_eqT, iv_eqF, iv_div, iv_mod, ↓bnI_s, ↓bnV_s, ↓bnJ_s, ↓bnR_s, rt_e, rt_0, rt_bz, sv_s, sv_o, ur_s, ur_e, ur_o, bz_T, bz_F, nat_eqF, Nat.reduceAdd, ↓gI_424_9 F, ↓gI_424_8 F, ↓pI_424_8 F, ↓gd_424 F, il_0, il_1, il_3, il_4, il_8, il_9, il_20, il_38, il_9999, ↓g_lo, g_23i, kd, p3, p2, isn, opn1, ho])
          rcases kk with k | k | k | k | k
          · -- (
            obtain ⟨V1, e1, out⟩ := A d7 (sv V 424 8 (i + 1)) J (i + 1) c P.next (by omega)
            rcases out with ⟨j, c1, g1, M1, a1, a2, a3, a4, a5, a6⟩ | ⟨j, f, a1, a2⟩
            · have q1 := a1.2.2.1
              have q2 := a1.2.2.2.1
              have mp := MoO.par G S a6 ⟨hd.1, d7⟩ (by omega) a2 a5 k
              by_cases k34 : sK s j = 34
              · have jm := S.lt (i := j) (by omega) (by omega) (by omega)
                have ex := y_expect1 (J := J) F S a1.1 (by omega) k34
                refine ⟨sv V1 424 8 (j + 1), rest _ ?_, Or.inl ⟨j + 1, c1, g1, M1, ⟨a1.1.next, ((frR.w (by omega)).tr a1.2.1).tr (frR.w (by omega)), by omega, by omega, fun q hq => ?_⟩, by omega, a3.ext (fun q _ _ => by simp (disch := first | decide | omega | (simp (disch := first | decide | omega) only [sv_s, sv_o, ur_s, ur_e, ur_o]; omega)) only [↓reduceIte, iv_add, iv_sub, iv_mul, iv_neg, iv_ltT, iv_ltF, iv_leT, iv_leF, iv_eqT, iv_eqF, iv_div, iv_mod, ↓bnI_s, ↓bnV_s, ↓bnJ_s, ↓bnR_s, rt_e, rt_0, rt_bz, sv_s, sv_o, ur_s, ur_e, ur_o, bz_T, bz_F, nat_eqF, Nat.reduceAdd]), a4, mp.1 k34⟩⟩
                · rw [k]
                  (rw [q_Reader_readOpen]; simp (disch := first | decide | omega | (simp (disch := first | decide | omega) only [sv_s, sv_o, ur_s, ur_e, ur_o]; omega)) only [↓reduceIte, iv_add, iv_sub, iv_mul, iv_neg, iv_ltT, iv_ltF, iv_leT, iv_leF, iv_eqT, iv_eqF, iv_div, iv_mod, ↓bnI_s, ↓bnV_s, ↓bnJ_s, ↓bnR_s, rt_e, rt_0, rt_bz, sv_s, sv_o, ur_s, ur_e, ur_o, bz_T, bz_F, nat_eqF, Nat.reduceAdd, ↓gd_424 F, il_0, il_1, il_18, il_20, il_30, il_33, il_34, il_41, ↓g_lo, ↓g_32, e1, ex])
                · simp (disch := first | decide | omega | (simp (disch := first | decide | omega) only [sv_s, sv_o, ur_s, ur_e, ur_o]; omega)) only [↓reduceIte, iv_add, iv_sub, iv_mul, iv_neg, iv_ltT, iv_ltF, iv_leT, iv_leF, iv_eqT, iv_eqF, iv_div, iv_mod, ↓bnI_s, ↓bnV_s, ↓bnJ_s, ↓bnR_s, rt_e, rt_0, rt_bz, sv_s, sv_o, ur_s, ur_e, ur_o, bz_T, bz_F, nat_eqF, Nat.reduceAdd]
                  rw [a1.2.2.2.2 q hq]
                  simp (disch := first | decide | omega | (simp (disch := first | decide | omega) only [sv_s, sv_o, ur_s, ur_e, ur_o]; omega)) only [↓reduceIte, iv_add, iv_sub, iv_mul, iv_neg, iv_ltT, iv_ltF, iv_leT, iv_leF, iv_eqT, iv_eqF, iv_div, iv_mod, ↓bnI_s, ↓bnV_s, ↓bnJ_s, ↓bnR_s, rt_e, rt_0, rt_bz, sv_s, sv_o, ur_s, ur_e, ur_o, bz_T, bz_F, nat_eqF, Nat.reduceAdd]
              · have ex := y_expect0 (J := J) F S a1.1 (by omega) k34 (by omega)
                have fl := a1.1.fail S (by omega) (f := 1) (by decide)
                refine ⟨_, rest _ ?_, Or.inr ⟨j, 1, ⟨fl.1, ((frR.w (by omega)).tr a1.2.1).tr fl.2.1, by omega⟩, mp.2 k34⟩⟩
                rw [k]
                (rw [q_Reader_readOpen]; simp (disch := first | decide | omega | (simp (disch := first | decide | omega) only [sv_s, sv_o, ur_s, ur_e, ur_o]; omega)) only [↓reduceIte, iv_add, iv_sub, iv_mul, iv_neg, iv_ltT, iv_ltF, iv_leT, iv_leF, iv_eqT, iv_eqF, iv_div, iv_mod, ↓bnI_s, ↓bnV_s, ↓bnJ_s, ↓bnR_s, rt_e, rt_0, rt_bz, sv_s, sv_o, ur_s, ur_e, ur_o, bz_T, bz_F, nat_eqF, Nat.reduceAdd, ↓gd_424 F, il_0, il_1, il_18, il_20, il_30, il_33, il_34, il_41, ↓g_lo, ↓g_32, e1, ex])
            · have ex := y_expectd (J := J) F a1.1 (x := 34)
              have q3 := a1.2.2
              refine ⟨V1, rest _ ?_, Or.inr ⟨j, f, ⟨a1.1, (frR.w (by omega)).tr a1.2.1, by omega⟩, MnO.par_ G S a2 ⟨hd.1, d7⟩ (by omega) k⟩⟩
              rw [k]
              (rw [q_Reader_readOpen]; simp (disch := first | decide | omega | (simp (disch := first | decide | omega) only [sv_s, sv_o, ur_s, ur_e, ur_o]; omega)) only [↓reduceIte, iv_add, iv_sub, iv_mul, iv_neg, iv_ltT, iv_ltF, iv_leT, iv_leF, iv_eqT, iv_eqF, iv_div, iv_mod, ↓bnI_s, ↓bnV_s, ↓bnJ_s, ↓bnR_s, rt_e, rt_0, rt_bz, sv_s, sv_o, ur_s, ur_e, ur_o, bz_T, bz_F, nat_eqF, Nat.reduceAdd, ↓gd_424 F, il_0, il_1, il_18, il_20, il_30, il_33, il_34, il_41, ↓g_lo, ↓g_32, e1, ex])
          · -- minus
            obtain ⟨V3, e3, out⟩ := O d7 (sv V 424 8 (i + 1)) J (i + 1) c P.next (by omega)
            rcases out with ⟨j2, c2, g2, M2, o1, o2, o3, o4, o5⟩ | ⟨j2, f, o1, o2⟩
            · have q1 := o1.2.2.1
              have q2 := o1.2.2.2.1
              have ce := y_cemit (J := J) (x := 41) (y := 0) (V := V3) F (by have := o1.1.2.2.2.1; omega)
              obtain ⟨n1, n2⟩ := OkC.not_ P (by omega) o1 o3 o4 (by omega) (w := 41) (by omega)
              refine ⟨cem V3 (41 + 64 * 0), rest _ ?_, Or.inl ⟨j2, c2 + 1, g2 + 1, _, n1, by omega, n2, on_MB o4, MoO.un G S o5 ⟨hd.1, d7⟩ (by omega) o2 o4 (Or.inl ⟨k, rfl, rfl⟩)⟩⟩
              generalize cem V3 (41 + 64 * 0) = W at *
              rw [k]
              (rw [q_Reader_readOpen]; simp (disch := first | decide | omega | (simp (disch := first | decide | omega) only [sv_s, sv_o, ur_s, ur_e, ur_o]; omega)) only [↓reduceIte, iv_add, iv_sub, iv_mul, iv_neg, iv_ltT, iv_ltF, iv_leT, iv_leF, iv_eqT, iv_eqF, iv_div, iv_mod, ↓bnI_s, ↓bnV_s, ↓bnJ_s, ↓bnR_s, rt_e, rt_0, rt_bz, sv_s, sv_o, ur_s, ur_e, ur_o, bz_T, bz_F, nat_eqF, Nat.reduceAdd, ↓gd_424 F, il_0, il_1, il_18, il_20, il_30, il_33, il_34, il_41, ↓g_lo, ↓g_32, e3, ce])
            · have ce := y_cemit (J := J) (x := 41) (y := 0) (V := V3) F o1.1.2.2.2.2
              have q3 := o1.2.2
              refine ⟨cem V3 (41 + 64 * 0), rest _ ?_, Or.inr ⟨j2, f, ⟨o1.1.cem_, ((frR.w (by omega)).tr o1.2.1).tr frR.cem_, by omega⟩, o2.un G S ⟨hd.1, d7⟩ (by omega) (by omega)⟩⟩
              generalize cem V3 (41 + 64 * 0) = W at *
              rw [k]
              (rw [q_Reader_readOpen]; simp (disch := first | decide | omega | (simp (disch := first | decide | omega) only [sv_s, sv_o, ur_s, ur_e, ur_o]; omega)) only [↓reduceIte, iv_add, iv_sub, iv_mul, iv_neg, iv_ltT, iv_ltF, iv_leT, iv_leF, iv_eqT, iv_eqF, iv_div, iv_mod, ↓bnI_s, ↓bnV_s, ↓bnJ_s, ↓bnR_s, rt_e, rt_0, rt_bz, sv_s, sv_o, ur_s, ur_e, ur_o, bz_T, bz_F, nat_eqF, Nat.reduceAdd, ↓gd_424 F, il_0, il_1, il_18, il_20, il_30, il_33, il_34, il_41, ↓g_lo, ↓g_32, e3, ce])
          · -- across
            obtain ⟨V3, e3, out⟩ := O d7 (sv V 424 8 (i + 1)) J (i + 1) c P.next (by omega)
            rcases out with ⟨j2, c2, g2, M2, o1, o2, o3, o4, o5⟩ | ⟨j2, f, o1, o2⟩
            · have q1 := o1.2.2.1
              have q2 := o1.2.2.2.1
              have ce := y_cemit (J := J) (x := 16) (y := 0) (V := V3) F (by have := o1.1.2.2.2.1; omega)
              obtain ⟨n1, n2⟩ := OkC.not_ P (by omega) o1 o3 o4 (by omega) (w := 16) (by omega)
              refine ⟨cem V3 (16 + 64 * 0), rest _ ?_, Or.inl ⟨j2, c2 + 1, g2 + 1, _, n1, by omega, n2, on_MB o4, MoO.un G S o5 ⟨hd.1, d7⟩ (by omega) o2 o4 (Or.inr (Or.inl ⟨k, rfl, rfl⟩))⟩⟩
              generalize cem V3 (16 + 64 * 0) = W at *
              rw [k]
              (rw [q_Reader_readOpen]; simp (disch := first | decide | omega | (simp (disch := first | decide | omega) only [sv_s, sv_o, ur_s, ur_e, ur_o]; omega)) only [↓reduceIte, iv_add, iv_sub, iv_mul, iv_neg, iv_ltT, iv_ltF, iv_leT, iv_leF, iv_eqT, iv_eqF, iv_div, iv_mod, ↓bnI_s, ↓bnV_s, ↓bnJ_s, ↓bnR_s, rt_e, rt_0, rt_bz, sv_s, sv_o, ur_s, ur_e, ur_o, bz_T, bz_F, nat_eqF, Nat.reduceAdd, ↓gd_424 F, il_0, il_1, il_18, il_20, il_30, il_33, il_34, il_41, ↓g_lo, ↓g_32, e3, ce])
            · have ce := y_cemit (J := J) (x := 16) (y := 0) (V := V3) F o1.1.2.2.2.2
              have q3 := o1.2.2
              refine ⟨cem V3 (16 + 64 * 0), rest _ ?_, Or.inr ⟨j2, f, ⟨o1.1.cem_, ((frR.w (by omega)).tr o1.2.1).tr frR.cem_, by omega⟩, o2.un G S ⟨hd.1, d7⟩ (by omega) (by omega)⟩⟩
              generalize cem V3 (16 + 64 * 0) = W at *
              rw [k]
              (rw [q_Reader_readOpen]; simp (disch := first | decide | omega | (simp (disch := first | decide | omega) only [sv_s, sv_o, ur_s, ur_e, ur_o]; omega)) only [↓reduceIte, iv_add, iv_sub, iv_mul, iv_neg, iv_ltT, iv_ltF, iv_leT, iv_leF, iv_eqT, iv_eqF, iv_div, iv_mod, ↓bnI_s, ↓bnV_s, ↓bnJ_s, ↓bnR_s, rt_e, rt_0, rt_bz, sv_s, sv_o, ur_s, ur_e, ur_o, bz_T, bz_F, nat_eqF, Nat.reduceAdd, ↓gd_424 F, il_0, il_1, il_18, il_20, il_30, il_33, il_34, il_41, ↓g_lo, ↓g_32, e3, ce])
          · -- quiver
            obtain ⟨V3, e3, out⟩ := O d7 (sv V 424 8 (i + 1)) J (i + 1) c P.next (by omega)
            rcases out with ⟨j2, c2, g2, M2, o1, o2, o3, o4, o5⟩ | ⟨j2, f, o1, o2⟩
            · have q1 := o1.2.2.1
              have q2 := o1.2.2.2.1
              have ce := y_cemit (J := J) (x := 17) (y := 0) (V := V3) F (by have := o1.1.2.2.2.1; omega)
              obtain ⟨n1, n2⟩ := OkC.not_ P (by omega) o1 o3 o4 (by omega) (w := 17) (by omega)
              refine ⟨cem V3 (17 + 64 * 0), rest _ ?_, Or.inl ⟨j2, c2 + 1, g2 + 1, _, n1, by omega, n2, on_MB o4, MoO.un G S o5 ⟨hd.1, d7⟩ (by omega) o2 o4 (Or.inr (Or.inr ⟨k, rfl, rfl⟩))⟩⟩
              generalize cem V3 (17 + 64 * 0) = W at *
              rw [k]
              (rw [q_Reader_readOpen]; simp (disch := first | decide | omega | (simp (disch := first | decide | omega) only [sv_s, sv_o, ur_s, ur_e, ur_o]; omega)) only [↓reduceIte, iv_add, iv_sub, iv_mul, iv_neg, iv_ltT, iv_ltF, iv_leT, iv_leF, iv_eqT, iv_eqF, iv_div, iv_mod, ↓bnI_s, ↓bnV_s, ↓bnJ_s, ↓bnR_s, rt_e, rt_0, rt_bz, sv_s, sv_o, ur_s, ur_e, ur_o, bz_T, bz_F, nat_eqF, Nat.reduceAdd, ↓gd_424 F, il_0, il_1, il_18, il_20, il_30, il_33, il_34, il_41, ↓g_lo, ↓g_32, e3, ce])
            · have ce := y_cemit (J := J) (x := 17) (y := 0) (V := V3) F o1.1.2.2.2.2
              have q3 := o1.2.2
              refine ⟨cem V3 (17 + 64 * 0), rest _ ?_, Or.inr ⟨j2, f, ⟨o1.1.cem_, ((frR.w (by omega)).tr o1.2.1).tr frR.cem_, by omega⟩, o2.un G S ⟨hd.1, d7⟩ (by omega) (by omega)⟩⟩
              generalize cem V3 (17 + 64 * 0) = W at *
              rw [k]
              (rw [q_Reader_readOpen]; simp (disch := first | decide | omega | (simp (disch := first | decide | omega) only [sv_s, sv_o, ur_s, ur_e, ur_o]; omega)) only [↓reduceIte, iv_add, iv_sub, iv_mul, iv_neg, iv_ltT, iv_ltF, iv_leT, iv_leF, iv_eqT, iv_eqF, iv_div, iv_mod, ↓bnI_s, ↓bnV_s, ↓bnJ_s, ↓bnR_s, rt_e, rt_0, rt_bz, sv_s, sv_o, ur_s, ur_e, ur_o, bz_T, bz_F, nat_eqF, Nat.reduceAdd, ↓gd_424 F, il_0, il_1, il_18, il_20, il_30, il_33, il_34, il_41, ↓g_lo, ↓g_32, e3, ce])
          · -- if
            obtain ⟨V3, e3, out⟩ := y_choice F G S (E d7) (A d7) (by omega) (sv V 424 8 (i + 1)) J (i + 1) c P.next (by omega)
            refine ⟨V3, rest _ ?_, ?_⟩
            · rw [k]
              (rw [q_Reader_readOpen]; simp (disch := first | decide | omega | (simp (disch := first | decide | omega) only [sv_s, sv_o, ur_s, ur_e, ur_o]; omega)) only [↓reduceIte, iv_add, iv_sub, iv_mul, iv_neg, iv_ltT, iv_ltF, iv_leT, iv_leF, iv_eqT, iv_eqF, iv_div, iv_mod, ↓bnI_s, ↓bnV_s, ↓bnJ_s, ↓bnR_s, rt_e, rt_0, rt_bz, sv_s, sv_o, ur_s, ur_e, ur_o, bz_T, bz_F, nat_eqF, Nat.reduceAdd, ↓gd_424 F, il_0, il_1, il_18, il_20, il_30, il_33, il_34, il_41, ↓g_lo, ↓g_32, e3])
            · rcases out with ⟨j2, c2, g2, M2, o1, o2, o3, o4, o5⟩ | ⟨j2, f, o1, o2⟩
              · have q1 := o1.2.2.1
                refine Or.inl ⟨j2, c2, g2, M2, ⟨o1.1, (frR.w (by omega)).tr o1.2.1, by omega, by have := o1.2.2.2.1; omega, fun q hq => ?_⟩, by omega, o3, o4, MoO.if_ G S o5 ⟨hd.1, d7⟩ (by omega) k⟩
                rw [o1.2.2.2.2 q hq]
                simp (disch := first | decide | omega | (simp (disch := first | decide | omega) only [sv_s, sv_o, ur_s, ur_e, ur_o]; omega)) only [↓reduceIte, iv_add, iv_sub, iv_mul, iv_neg, iv_ltT, iv_ltF, iv_leT, iv_leF, iv_eqT, iv_eqF, iv_div, iv_mod, ↓bnI_s, ↓bnV_s, ↓bnJ_s, ↓bnR_s, rt_e, rt_0, rt_bz, sv_s, sv_o, ur_s, ur_e, ur_o, bz_T, bz_F, nat_eqF, Nat.reduceAdd]
              · have q3 := o1.2.2
                exact Or.inr ⟨j2, f, ⟨o1.1, (frR.w (by omega)).tr o1.2.1, by omega⟩, MnO.if_ G S o2 ⟨hd.1, d7⟩ (by omega) k⟩
      · rw [bz_F op] at opn1
        have fl0 := y_fail0 (J := J) (f := 1) F S P (by omega)
        have fl := P.fail S hc (f := 1) (by decide)
        refine ⟨_, ?_, Or.inr ⟨i, 1, fl, MnO.same (fun U K p w k0 m hp ha => ?_)⟩⟩
        · clear op nm
          generalize sK s i = k at *
          (rw [q_Reader_readOne]; simp (disch := first | decide | omega | (simp (disch := first | decide | omega) only [sv_s, sv_o, ur_s, ur_e, ur_o]; omega)) only [↓reduceIte, iv_add, iv_sub, iv_mul, iv_neg, iv_ltT, iv_ltF, iv_leT, iv_leF, iv_eqT, iv_eqF, iv_div, iv_mod, ↓bnI_s, ↓bnV_s, ↓bnJ_s, ↓bnR_s, rt_e, rt_0, rt_bz, sv_s, sv_o, ur_s, ur_e, ur_o, bz_T, bz_F, nat_eqF, Nat.reduceAdd, ↓gI_424_9 F, ↓gI_424_8 F, ↓pI_424_8 F, ↓gd_424 F, il_0, il_1, il_3, il_4, il_8, il_9, il_20, il_38, il_9999, ↓g_lo, kd, p3, isn, opn1, fl0])
        · refine l_fail1 G S m.1 m.2.1 nno (by omega) (fun h24 => ?_)
          have v := m.2.2
          refine y_ahF G m.1.2.1 (by have := v.1; omega) v.2.1 (fun h41 => ?_) (ha h24)
          have k0n : k0 ≠ -1 := fun x => by unfold opn at h41; rw [if_pos x] at h41; exact absurd h41 (by decide)
          have kp := v.2.1.1
          have vv := v.2.2 (p - 1) (by omega) (by omega)
          omega
/-- all of it, from the deepest on -/
def SpAll (z zm : Zz) (s : Sm) (d : Int) : Prop := SpOn z zm s d ∧ SpA z zm s m_Reader_readSum 5 d ∧ SpQ z zm s m_Reader_readAsk 3 d ∧ SpQ z zm s m_Reader_readEither 1 d
theorem sp_up (F : Fix z) (G : Fix zm) (S : SO s) (hd : 0 ≤ d ∧ d ≤ 8) (H : d < 8 → SpAll z zm s (d + 1)) : SpAll z zm s d := by
  have o := y_one F G S hd (fun h => (H h).1) (fun h => (H h).2.1) (fun h => (H h).2.2.2)
  have p := y_prod F G S (o.one G hd) hd
  have su := y_sum F G S p hd
  have a := y_ask F G S su (fun h => (H h).2.2.1) hd
  have b := y_bothR F G S a hd
  exact ⟨o, su, a, y_either F G S b hd⟩
theorem sp_all (F : Fix z) (G : Fix zm) (S : SO s) : ∀ (m : Nat) (d : Int), 0 ≤ d → d + m = 8 → SpAll z zm s d := by
  intro m
  induction m with
  | zero => exact fun d d0 hm => sp_up F G S (by omega) (fun h => absurd h (by omega))
  | succ m ih => exact fun d d0 hm => sp_up F G S (by omega) (fun _ => ih (d + 1) (by omega) (by omega))
theorem sp_sum (F : Fix z) (G : Fix zm) (S : SO s) : SpA z zm s m_Reader_readSum 5 0 := (sp_all F G S 8 0 (by omega) (by omega)).2.1
end
