/-! THE READING: if then else in the class -/
noncomputable def chE (w8 : Int32) (h : Mem) : Rs := bnV (cA m_Reader_expect [.ref 424, .int (iv 21)] h) fun h11 => bnV (cA m_Reader_leapToHere [.ref 424, .int w8] h11) fun h12 => some (.null, h12)
noncomputable def chD (e : Int) (w4 w8 : Int32) (h : Mem) : Rs := bnV (cA m_Reader_leapToHere [.ref 424, .int w4] h) fun h9 => bnV (cA m_Reader_readSum [.ref 424, .int (iv e)] h9) fun h10 => chE w8 h10
noncomputable def chC (e : Int) (w4 : Int32) (h : Mem) : Rs := bnV (cA m_Reader_expect [.ref 424, .int (iv 20)] h) fun h6 => bnI (cA m_Reader_emit [.ref 424, .int (iv 20), .int (iv 0)] h6) fun w8 h7 => chD e w4 w8 h7
noncomputable def chB (e : Int) (h : Mem) : Rs := bnV (cA m_Reader_expect [.ref 424, .int (iv 19)] h) fun h2 => bnI (cA m_Reader_emit [.ref 424, .int (iv 19), .int (iv 0)] h2) fun w4 h3 => bnV (cA m_Reader_readSum [.ref 424, .int (iv e)] h3) fun h5 => chC e w4 h5
section
variable {V V1 V2 V3 V4 J : Vm} {z zm : Zz} {s : Sm} {l i c c1 c2 c3 j j1 j2 j3 d e f g x a : Int} {M1 M2 C : (Int → Int) → Int → Int}
theorem ch_eq (F : Fix z) (he : 0 ≤ e ∧ e ≤ 8) : cA m_Reader_readChoice [.ref 424, .int (iv e)] (em V J z) = bnV (cA m_Reader_readEither [.ref 424, .int (iv e)] (em V J z)) fun h => chB e h := by
  unfold chB chC chD chE
  (rw [q_Reader_readChoice]; simp (disch := first | decide | omega | (simp (disch := first | decide | omega) only [sv_s, sv_o, ur_s, ur_e, ur_o]; omega)) only [↓reduceIte, iv_add, iv_sub, iv_mul, iv_neg, iv_ltT, iv_ltF, iv_leT, iv_leF, iv_eqT, iv_eqF, iv_div, iv_mod, ↓bnI_s, ↓bnV_s, ↓bnJ_s, ↓bnR_s, rt_e, rt_0, rt_bz, sv_s, sv_o, ur_s, ur_e, ur_o, bz_T, bz_F, nat_eqF, Nat.reduceAdd, ↓gd_424 F, il_0, il_1, il_19, il_20, il_21, ↓g_sd, ↓g_lo])
theorem Cd.w6 (D : Cd V s f g) {k y : Int} : Cd (sv V 426 k y) s f g := by
  obtain ⟨d1, d2, d3, d4, d5⟩ := D
  exact ⟨frR.w6.cs d1, by simp (disch := first | decide | omega | (simp (disch := first | decide | omega) only [sv_s, sv_o, ur_s, ur_e, ur_o]; omega)) only [↓reduceIte, iv_add, iv_sub, iv_mul, iv_neg, iv_ltT, iv_ltF, iv_leT, iv_leF, iv_eqT, iv_eqF, iv_div, iv_mod, ↓bnI_s, ↓bnV_s, ↓bnJ_s, ↓bnR_s, rt_e, rt_0, rt_bz, sv_s, sv_o, ur_s, ur_e, ur_o, bz_T, bz_F, nat_eqF, Nat.reduceAdd]; exact d2, by simp (disch := first | decide | omega | (simp (disch := first | decide | omega) only [sv_s, sv_o, ur_s, ur_e, ur_o]; omega)) only [↓reduceIte, iv_add, iv_sub, iv_mul, iv_neg, iv_ltT, iv_ltF, iv_leT, iv_leF, iv_eqT, iv_eqF, iv_div, iv_mod, ↓bnI_s, ↓bnV_s, ↓bnJ_s, ↓bnR_s, rt_e, rt_0, rt_bz, sv_s, sv_o, ur_s, ur_e, ur_o, bz_T, bz_F, nat_eqF, Nat.reduceAdd]; exact d3, by simp (disch := first | decide | omega | (simp (disch := first | decide | omega) only [sv_s, sv_o, ur_s, ur_e, ur_o]; omega)) only [↓reduceIte, iv_add, iv_sub, iv_mul, iv_neg, iv_ltT, iv_ltF, iv_leT, iv_leF, iv_eqT, iv_eqF, iv_div, iv_mod, ↓bnI_s, ↓bnV_s, ↓bnJ_s, ↓bnR_s, rt_e, rt_0, rt_bz, sv_s, sv_o, ur_s, ur_e, ur_o, bz_T, bz_F, nat_eqF, Nat.reduceAdd]; exact d4, by simp (disch := first | decide | omega | (simp (disch := first | decide | omega) only [sv_s, sv_o, ur_s, ur_e, ur_o]; omega)) only [↓reduceIte, iv_add, iv_sub, iv_mul, iv_neg, iv_ltT, iv_ltF, iv_leT, iv_leF, iv_eqT, iv_eqF, iv_div, iv_mod, ↓bnI_s, ↓bnV_s, ↓bnJ_s, ↓bnR_s, rt_e, rt_0, rt_bz, sv_s, sv_o, ur_s, ur_e, ur_o, bz_T, bz_F, nat_eqF, Nat.reduceAdd]; exact d5⟩
theorem y_leapd (F : Fix z) (D : Cd V s f g) (ha : 0 ≤ a ∧ a ≤ 300) : ∃ y, cA m_Reader_leapToHere [.ref 424, .int (iv a)] (em V J z) = some (.null, em (sv V 426 a y) J z) := by
  obtain ⟨y, hy⟩ : ∃ y : Int, iv y = iv (V 426 a) % iv 64 + iv 64 * iv (V 424 4) := ⟨_, iv_of _⟩
  refine ⟨y, ?_⟩
  have h4 := D.2.2.2.2
  have pp := y_put (V := V) (J := J) (x := y) (s_426 F) (by decide) (i := a) (by omega)
  rw [hy, pt_in (by omega)] at pp
  simp (disch := first | decide | omega | (simp (disch := first | decide | omega) only [sv_s, sv_o, ur_s, ur_e, ur_o]; omega)) only [↓reduceIte, iv_sub, iv_neg, iv_ltT, iv_ltF, iv_leT, iv_leF, iv_eqT, iv_eqF, iv_div, ↓bnI_s, ↓bnV_s, ↓bnJ_s, ↓bnR_s, rt_e, rt_0, rt_bz, sv_s, sv_o, ur_s, ur_e, ur_o, bz_T, bz_F, nat_eqF, Nat.reduceAdd, ↓q_Reader_leapToHere, ↓gR_424_2 F, ↓gI_424_4 F, ↓gd_424 F, il_0, il_1, il_2, il_4, il_20, il_64, y_get (s_426 F), rd_in, pp]
theorem dE (F : Fix z) (D : Cd V s f g) (ha : 0 ≤ a ∧ a ≤ 300) : ∃ V', chE (iv a) (em V J z) = some (.null, em V' J z) ∧ Cd V' s f g ∧ frR V V' := by
  obtain ⟨y, hy⟩ := y_leapd (J := J) F D ha
  refine ⟨sv V 426 a y, ?_, D.w6, frR.w6⟩
  unfold chE
  rw [y_expectd F D, bnV_s, hy, bnV_s]
theorem dD (F : Fix z) (S : SO s) (D : Cd V s f g) (he : 0 ≤ e ∧ e ≤ 8) (ha : 0 ≤ a ∧ a ≤ 300) (hx : 0 ≤ x ∧ x ≤ 300) : ∃ V', chD e (iv a) (iv x) (em V J z) = some (.null, em V' J z) ∧ Cd V' s f g ∧ frR V V' := by
  obtain ⟨y, hy⟩ := y_leapd (J := J) F D ha
  obtain ⟨V', h1, h2, h3⟩ := dE (J := J) F (D.w6 (k := a) (y := y)) hx
  refine ⟨V', ?_, h2, frR.w6.tr h3⟩
  unfold chD
  rw [hy, bnV_s, dd_sum F S D.w6 he, bnV_s, h1]
theorem dC (F : Fix z) (S : SO s) (D : Cd V s f g) (he : 0 ≤ e ∧ e ≤ 8) (ha : 0 ≤ a ∧ a ≤ 300) : ∃ V', chC e (iv a) (em V J z) = some (.null, em V' J z) ∧ Cd V' s f g ∧ frR V V' := by
  have h4 := D.2.2.2.2
  obtain ⟨V', h1, h2, h3⟩ := dD (J := J) F S (D.cem_ (w := 20 + 64 * 0)) he ha (x := min (V 424 4 + 1) 301 - 1) (by omega)
  refine ⟨V', ?_, h2, frR.cem_.tr h3⟩
  unfold chC
  rw [y_expectd F D, bnV_s, y_cemit F h4, bnI_s, h1]
theorem dB (F : Fix z) (S : SO s) (D : Cd V s f g) (he : 0 ≤ e ∧ e ≤ 8) : ∃ V', chB e (em V J z) = some (.null, em V' J z) ∧ Cd V' s f g ∧ frR V V' := by
  have h4 := D.2.2.2.2
  obtain ⟨V', h1, h2, h3⟩ := dC (J := J) F S (D.cem_ (w := 19 + 64 * 0)) he (a := min (V 424 4 + 1) 301 - 1) (by omega)
  refine ⟨V', ?_, h2, frR.cem_.tr h3⟩
  unfold chB
  rw [y_expectd F D, bnV_s, y_cemit F h4, bnI_s, dd_sum F S D.cem_ he, bnV_s, h1]
theorem if_MB (b1 : MB M1) (b2 : MB M2) : MB (fun A k => if C A k = 0 then M2 A k else M1 A k) := fun V t A k hK hk => by
  show Bd (if C A k = 0 then M2 A k else M1 A k)
  split
  · exact b2 V t A k hK hk
  · exact b1 V t A k hK hk
theorem NoC.end_ (h1 : frR V V1) (hd : Cd V2 s f (sP s j)) (h2 : frR V1 V2) (hj : i ≤ j ∧ j ≤ sM s) : NoC V V2 s i j f := ⟨hd, h1.tr h2, hj⟩
theorem y_choice (F : Fix z) (G : Fix zm) (S : SO s) (E : SpQ z zm s m_Reader_readEither 1 e) (O : SpA z zm s m_Reader_readSum 5 e) (he : 1 ≤ e ∧ e ≤ 8) : ∀ V J i c, Cp V s i c → (0 ≤ c ∧ c ≤ i ∧ i ≤ sM s) → ∃ V', cA m_Reader_readChoice [.ref 424, .int (iv e)] (em V J z) = some (.null, em V' J z) ∧ ((∃ j c' g M, OkC V V' s i c j c' ∧ (0 < g ∧ g ≤ j - i) ∧ CE (V' 426) c c' M ∧ MB M ∧ MoC zm s i j e g M) ∨ ∃ j f, NoC V V' s i j f ∧ MnC zm s i j f e) := by
  intro V J i c P hc
  have S1 := S.1
  have he' : 0 ≤ e ∧ e ≤ 8 := by omega
  have nl : ∀ {j : Int}, 0 ≤ j → j ≤ sM s → sK s j ≠ 40 → j < sM s := fun {j} h0 h1 n => by
    by_cases w : j = sM s
    · exact absurd ((S.2.2.2 j h0 h1).2.2.mpr w) n
    · omega
  obtain ⟨V1, e1, out1⟩ := E V J i c P hc
  rw [ch_eq F he', e1, bnV_s]
  rcases out1 with ⟨j1, c1, g, C, a1, a2, a3, a4, a5, a6⟩ | ⟨j, f, a1, a2⟩
  · obtain ⟨a11, a12, a13, a14, a15⟩ := a1
    by_cases k1 : sK s j1 = 19
    · have n1 := nl (by omega) a13.2 (by omega)
      -- then
      have ex := y_expect1 (J := J) F S a11 (by omega) k1
      have P2 := a11.next
      have P2' := P2
      obtain ⟨q1, q2, q3, q4, q5⟩ := P2'
      have ce := y_cemit (V := sv V1 424 8 (j1 + 1)) (J := J) (x := 19) (y := 0) F (by omega)
      obtain ⟨W, hW⟩ : ∃ W, W = cem (sv V1 424 8 (j1 + 1)) (19 + 64 * 0) := ⟨_, rfl⟩
      have eW : W = sv (sv (sv V1 424 8 (j1 + 1)) 426 c1 19) 424 4 (c1 + 1) := by rw [hW, cem_in q4 (by omega)]; rfl
      rw [q4, show min (c1 + 1) 301 - 1 = c1 by omega, ← hW] at ce
      have frW : frR V1 W := by rw [eW]; exact ((frR.w (by omega)).tr frR.w6).tr (frR.w (by omega))
      have PW : Cp W s (j1 + 1) (c1 + 1) := ⟨frW.cs a11.1, by rw [eW]; simp (disch := first | decide | omega | (simp (disch := first | decide | omega) only [sv_s, sv_o, ur_s, ur_e, ur_o]; omega)) only [↓reduceIte, iv_add, iv_sub, iv_mul, iv_neg, iv_ltT, iv_ltF, iv_leT, iv_leF, iv_eqT, iv_eqF, iv_div, iv_mod, ↓bnI_s, ↓bnV_s, ↓bnJ_s, ↓bnR_s, rt_e, rt_0, rt_bz, sv_s, sv_o, ur_s, ur_e, ur_o, bz_T, bz_F, nat_eqF, Nat.reduceAdd], by rw [eW]; simp (disch := first | decide | omega | (simp (disch := first | decide | omega) only [sv_s, sv_o, ur_s, ur_e, ur_o]; omega)) only [↓reduceIte, iv_add, iv_sub, iv_mul, iv_neg, iv_ltT, iv_ltF, iv_leT, iv_leF, iv_eqT, iv_eqF, iv_div, iv_mod, ↓bnI_s, ↓bnV_s, ↓bnJ_s, ↓bnR_s, rt_e, rt_0, rt_bz, sv_s, sv_o, ur_s, ur_e, ur_o, bz_T, bz_F, nat_eqF, Nat.reduceAdd, a11.2.2.1], by rw [eW]; simp (disch := first | decide | omega | (simp (disch := first | decide | omega) only [sv_s, sv_o, ur_s, ur_e, ur_o]; omega)) only [↓reduceIte, iv_add, iv_sub, iv_mul, iv_neg, iv_ltT, iv_ltF, iv_leT, iv_leF, iv_eqT, iv_eqF, iv_div, iv_mod, ↓bnI_s, ↓bnV_s, ↓bnJ_s, ↓bnR_s, rt_e, rt_0, rt_bz, sv_s, sv_o, ur_s, ur_e, ur_o, bz_T, bz_F, nat_eqF, Nat.reduceAdd], by rw [eW]; simp (disch := first | decide | omega | (simp (disch := first | decide | omega) only [sv_s, sv_o, ur_s, ur_e, ur_o]; omega)) only [↓reduceIte, iv_add, iv_sub, iv_mul, iv_neg, iv_ltT, iv_ltF, iv_leT, iv_leF, iv_eqT, iv_eqF, iv_div, iv_mod, ↓bnI_s, ↓bnV_s, ↓bnJ_s, ↓bnR_s, rt_e, rt_0, rt_bz, sv_s, sv_o, ur_s, ur_e, ur_o, bz_T, bz_F, nat_eqF, Nat.reduceAdd, a11.2.2.2.2, and_self]⟩
      obtain ⟨V4, e4, out2⟩ := O W J (j1 + 1) (c1 + 1) PW (by omega)
      have st2 : chB e (em V1 J z) = chC e (iv c1) (em V4 J z) := by
        unfold chB
        rw [ex, bnV_s, ce, bnI_s, e4, bnV_s]
      rw [st2]
      rcases out2 with ⟨j2, c2, g1, M1, b1, b2, b3, b4, b5, b6⟩ | ⟨j, f, b1, b2⟩
      · obtain ⟨b11, b12, b13, b14, b15⟩ := b1
        by_cases k2 : sK s j2 = 20
        · have n2 := nl (by omega) b13.2 (by omega)
          -- else
          have ex2 := y_expect1 (J := J) F S b11 (by omega) k2
          have P5 := b11.next
          obtain ⟨u1, u2, u3, u4, u5⟩ := P5
          have ce2 := y_cemit (V := sv V4 424 8 (j2 + 1)) (J := J) (x := 20) (y := 0) F (by omega)
          obtain ⟨X, hX⟩ : ∃ X, X = cem (sv V4 424 8 (j2 + 1)) (20 + 64 * 0) := ⟨_, rfl⟩
          have eX : X = sv (sv (sv V4 424 8 (j2 + 1)) 426 c2 20) 424 4 (c2 + 1) := by rw [hX, cem_in u4 (by omega)]; rfl
          rw [u4, show min (c2 + 1) 301 - 1 = c2 by omega, ← hX] at ce2
          have x4 : X 424 4 = c2 + 1 := by rw [eX]; simp (disch := first | decide | omega | (simp (disch := first | decide | omega) only [sv_s, sv_o, ur_s, ur_e, ur_o]; omega)) only [↓reduceIte, iv_add, iv_sub, iv_mul, iv_neg, iv_ltT, iv_ltF, iv_leT, iv_leF, iv_eqT, iv_eqF, iv_div, iv_mod, ↓bnI_s, ↓bnV_s, ↓bnJ_s, ↓bnR_s, rt_e, rt_0, rt_bz, sv_s, sv_o, ur_s, ur_e, ur_o, bz_T, bz_F, nat_eqF, Nat.reduceAdd]
          have xc : X 426 c1 = 19 := by
            rw [eX]; simp (disch := first | decide | omega | (simp (disch := first | decide | omega) only [sv_s, sv_o, ur_s, ur_e, ur_o]; omega)) only [↓reduceIte, iv_add, iv_sub, iv_mul, iv_neg, iv_ltT, iv_ltF, iv_leT, iv_leF, iv_eqT, iv_eqF, iv_div, iv_mod, ↓bnI_s, ↓bnV_s, ↓bnJ_s, ↓bnR_s, rt_e, rt_0, rt_bz, sv_s, sv_o, ur_s, ur_e, ur_o, bz_T, bz_F, nat_eqF, Nat.reduceAdd]
            rw [b15 c1 (by omega), eW]; simp (disch := first | decide | omega | (simp (disch := first | decide | omega) only [sv_s, sv_o, ur_s, ur_e, ur_o]; omega)) only [↓reduceIte, iv_add, iv_sub, iv_mul, iv_neg, iv_ltT, iv_ltF, iv_leT, iv_leF, iv_eqT, iv_eqF, iv_div, iv_mod, ↓bnI_s, ↓bnV_s, ↓bnJ_s, ↓bnR_s, rt_e, rt_0, rt_bz, sv_s, sv_o, ur_s, ur_e, ur_o, bz_T, bz_F, nat_eqF, Nat.reduceAdd]
          have lp := y_leap (V := X) (J := J) F (a := c1) (x := 19) (by omega) (by omega) xc (by omega)
          rw [x4] at lp
          obtain ⟨Y, hY⟩ : ∃ Y, Y = sv X 426 c1 (19 % 64 + 64 * (c2 + 1)) := ⟨_, rfl⟩
          rw [← hY] at lp
          have frX : frR V4 X := by rw [eX]; exact ((frR.w (by omega)).tr frR.w6).tr (frR.w (by omega))
          have frY : frR V4 Y := by rw [hY]; exact frX.tr frR.w6
          have PY : Cp Y s (j2 + 1) (c2 + 1) := ⟨frY.cs b11.1, by rw [hY, eX]; simp (disch := first | decide | omega | (simp (disch := first | decide | omega) only [sv_s, sv_o, ur_s, ur_e, ur_o]; omega)) only [↓reduceIte, iv_add, iv_sub, iv_mul, iv_neg, iv_ltT, iv_ltF, iv_leT, iv_leF, iv_eqT, iv_eqF, iv_div, iv_mod, ↓bnI_s, ↓bnV_s, ↓bnJ_s, ↓bnR_s, rt_e, rt_0, rt_bz, sv_s, sv_o, ur_s, ur_e, ur_o, bz_T, bz_F, nat_eqF, Nat.reduceAdd], by rw [hY, eX]; simp (disch := first | decide | omega | (simp (disch := first | decide | omega) only [sv_s, sv_o, ur_s, ur_e, ur_o]; omega)) only [↓reduceIte, iv_add, iv_sub, iv_mul, iv_neg, iv_ltT, iv_ltF, iv_leT, iv_leF, iv_eqT, iv_eqF, iv_div, iv_mod, ↓bnI_s, ↓bnV_s, ↓bnJ_s, ↓bnR_s, rt_e, rt_0, rt_bz, sv_s, sv_o, ur_s, ur_e, ur_o, bz_T, bz_F, nat_eqF, Nat.reduceAdd, b11.2.2.1], by rw [hY, eX]; simp (disch := first | decide | omega | (simp (disch := first | decide | omega) only [sv_s, sv_o, ur_s, ur_e, ur_o]; omega)) only [↓reduceIte, iv_add, iv_sub, iv_mul, iv_neg, iv_ltT, iv_ltF, iv_leT, iv_leF, iv_eqT, iv_eqF, iv_div, iv_mod, ↓bnI_s, ↓bnV_s, ↓bnJ_s, ↓bnR_s, rt_e, rt_0, rt_bz, sv_s, sv_o, ur_s, ur_e, ur_o, bz_T, bz_F, nat_eqF, Nat.reduceAdd], by rw [hY, eX]; simp (disch := first | decide | omega | (simp (disch := first | decide | omega) only [sv_s, sv_o, ur_s, ur_e, ur_o]; omega)) only [↓reduceIte, iv_add, iv_sub, iv_mul, iv_neg, iv_ltT, iv_ltF, iv_leT, iv_leF, iv_eqT, iv_eqF, iv_div, iv_mod, ↓bnI_s, ↓bnV_s, ↓bnJ_s, ↓bnR_s, rt_e, rt_0, rt_bz, sv_s, sv_o, ur_s, ur_e, ur_o, bz_T, bz_F, nat_eqF, Nat.reduceAdd, b11.2.2.2.2, and_self]⟩
          obtain ⟨V8, e8, out3⟩ := O Y J (j2 + 1) (c2 + 1) PY (by omega)
          have st3 : chC e (iv c1) (em V4 J z) = chE (iv c2) (em V8 J z) := by
            unfold chC chD
            rw [ex2, bnV_s, ce2, bnI_s, lp, bnV_s, e8, bnV_s]
          rw [st3]
          have fr8 : frR V Y := (a12.tr frW).tr (b12.tr frY)
          rcases out3 with ⟨j3, c3, g2, M2, d1, d2, d3, d4, d5, d6⟩ | ⟨j, f, d1, d2⟩
          · obtain ⟨d11, d12, d13, d14, d15⟩ := d1
            by_cases k3 : sK s j3 = 21
            · have n3 := nl (by omega) d13.2 (by omega)
              have ex3 := y_expect1 (J := J) F S d11 (by omega) k3
              have P9 := d11.next
              obtain ⟨v1, v2, v3, v4, v5⟩ := P9
              have yc : Y 426 c2 = 20 := by rw [hY, eX]; simp (disch := first | decide | omega | (simp (disch := first | decide | omega) only [sv_s, sv_o, ur_s, ur_e, ur_o]; omega)) only [↓reduceIte, iv_add, iv_sub, iv_mul, iv_neg, iv_ltT, iv_ltF, iv_leT, iv_leF, iv_eqT, iv_eqF, iv_div, iv_mod, ↓bnI_s, ↓bnV_s, ↓bnJ_s, ↓bnR_s, rt_e, rt_0, rt_bz, sv_s, sv_o, ur_s, ur_e, ur_o, bz_T, bz_F, nat_eqF, Nat.reduceAdd]
              have zc : (sv V8 424 8 (j3 + 1)) 426 c2 = 20 := by simp (disch := first | decide | omega | (simp (disch := first | decide | omega) only [sv_s, sv_o, ur_s, ur_e, ur_o]; omega)) only [↓reduceIte, iv_add, iv_sub, iv_mul, iv_neg, iv_ltT, iv_ltF, iv_leT, iv_leF, iv_eqT, iv_eqF, iv_div, iv_mod, ↓bnI_s, ↓bnV_s, ↓bnJ_s, ↓bnR_s, rt_e, rt_0, rt_bz, sv_s, sv_o, ur_s, ur_e, ur_o, bz_T, bz_F, nat_eqF, Nat.reduceAdd]; rw [d15 c2 (by omega)]; exact yc
              have lp2 := y_leap (V := sv V8 424 8 (j3 + 1)) (J := J) F (a := c2) (x := 20) (by omega) (by omega) zc (by omega)
              rw [v4] at lp2
              have rgC : ∀ q, q < c1 → V8 426 q = V1 426 q := fun q hq => by
                rw [d15 q (by omega), hY, eX]; simp (disch := first | decide | omega | (simp (disch := first | decide | omega) only [sv_s, sv_o, ur_s, ur_e, ur_o]; omega)) only [↓reduceIte, iv_add, iv_sub, iv_mul, iv_neg, iv_ltT, iv_ltF, iv_leT, iv_leF, iv_eqT, iv_eqF, iv_div, iv_mod, ↓bnI_s, ↓bnV_s, ↓bnJ_s, ↓bnR_s, rt_e, rt_0, rt_bz, sv_s, sv_o, ur_s, ur_e, ur_o, bz_T, bz_F, nat_eqF, Nat.reduceAdd]
                rw [b15 q (by omega), eW]; simp (disch := first | decide | omega | (simp (disch := first | decide | omega) only [sv_s, sv_o, ur_s, ur_e, ur_o]; omega)) only [↓reduceIte, iv_add, iv_sub, iv_mul, iv_neg, iv_ltT, iv_ltF, iv_leT, iv_leF, iv_eqT, iv_eqF, iv_div, iv_mod, ↓bnI_s, ↓bnV_s, ↓bnJ_s, ↓bnR_s, rt_e, rt_0, rt_bz, sv_s, sv_o, ur_s, ur_e, ur_o, bz_T, bz_F, nat_eqF, Nat.reduceAdd]
              have rg1 : ∀ q, c1 + 1 ≤ q → q < c2 → V8 426 q = V4 426 q := fun q h0 h1 => by
                rw [d15 q (by omega), hY, eX]; simp (disch := first | decide | omega | (simp (disch := first | decide | omega) only [sv_s, sv_o, ur_s, ur_e, ur_o]; omega)) only [↓reduceIte, iv_add, iv_sub, iv_mul, iv_neg, iv_ltT, iv_ltF, iv_leT, iv_leF, iv_eqT, iv_eqF, iv_div, iv_mod, ↓bnI_s, ↓bnV_s, ↓bnJ_s, ↓bnR_s, rt_e, rt_0, rt_bz, sv_s, sv_o, ur_s, ur_e, ur_o, bz_T, bz_F, nat_eqF, Nat.reduceAdd]
              have rc1 : V8 426 c1 = 19 + 64 * (c2 + 1) := by
                rw [d15 c1 (by omega), hY]; simp (disch := first | decide | omega | (simp (disch := first | decide | omega) only [sv_s, sv_o, ur_s, ur_e, ur_o]; omega)) only [↓reduceIte, iv_add, iv_sub, iv_mul, iv_neg, iv_ltT, iv_ltF, iv_leT, iv_leF, iv_eqT, iv_eqF, iv_div, iv_mod, ↓bnI_s, ↓bnV_s, ↓bnJ_s, ↓bnR_s, rt_e, rt_0, rt_bz, sv_s, sv_o, ur_s, ur_e, ur_o, bz_T, bz_F, nat_eqF, Nat.reduceAdd]
                omega
              refine ⟨sv (sv V8 424 8 (j3 + 1)) 426 c2 (20 % 64 + 64 * c3), ?_, Or.inl ⟨j3 + 1, c3, g + g1 + g2 + 1, fun A k => if C A k = 0 then M2 A k else M1 A k, ⟨⟨frR.w6.cs v1, by simp (disch := first | decide | omega | (simp (disch := first | decide | omega) only [sv_s, sv_o, ur_s, ur_e, ur_o]; omega)) only [↓reduceIte, iv_add, iv_sub, iv_mul, iv_neg, iv_ltT, iv_ltF, iv_leT, iv_leF, iv_eqT, iv_eqF, iv_div, iv_mod, ↓bnI_s, ↓bnV_s, ↓bnJ_s, ↓bnR_s, rt_e, rt_0, rt_bz, sv_s, sv_o, ur_s, ur_e, ur_o, bz_T, bz_F, nat_eqF, Nat.reduceAdd], by simp (disch := first | decide | omega | (simp (disch := first | decide | omega) only [sv_s, sv_o, ur_s, ur_e, ur_o]; omega)) only [↓reduceIte, iv_add, iv_sub, iv_mul, iv_neg, iv_ltT, iv_ltF, iv_leT, iv_leF, iv_eqT, iv_eqF, iv_div, iv_mod, ↓bnI_s, ↓bnV_s, ↓bnJ_s, ↓bnR_s, rt_e, rt_0, rt_bz, sv_s, sv_o, ur_s, ur_e, ur_o, bz_T, bz_F, nat_eqF, Nat.reduceAdd, d11.2.2.1], by simp (disch := first | decide | omega | (simp (disch := first | decide | omega) only [sv_s, sv_o, ur_s, ur_e, ur_o]; omega)) only [↓reduceIte, iv_add, iv_sub, iv_mul, iv_neg, iv_ltT, iv_ltF, iv_leT, iv_leF, iv_eqT, iv_eqF, iv_div, iv_mod, ↓bnI_s, ↓bnV_s, ↓bnJ_s, ↓bnR_s, rt_e, rt_0, rt_bz, sv_s, sv_o, ur_s, ur_e, ur_o, bz_T, bz_F, nat_eqF, Nat.reduceAdd, d11.2.2.2.1], by simp (disch := first | decide | omega | (simp (disch := first | decide | omega) only [sv_s, sv_o, ur_s, ur_e, ur_o]; omega)) only [↓reduceIte, iv_add, iv_sub, iv_mul, iv_neg, iv_ltT, iv_ltF, iv_leT, iv_leF, iv_eqT, iv_eqF, iv_div, iv_mod, ↓bnI_s, ↓bnV_s, ↓bnJ_s, ↓bnR_s, rt_e, rt_0, rt_bz, sv_s, sv_o, ur_s, ur_e, ur_o, bz_T, bz_F, nat_eqF, Nat.reduceAdd, d11.2.2.2.2, and_self]⟩, (fr8.tr d12).tr ((frR.w (by omega)).tr frR.w6), by omega, by omega, fun q hq => by simp (disch := first | decide | omega | (simp (disch := first | decide | omega) only [sv_s, sv_o, ur_s, ur_e, ur_o]; omega)) only [↓reduceIte, iv_add, iv_sub, iv_mul, iv_neg, iv_ltT, iv_ltF, iv_leT, iv_leF, iv_eqT, iv_eqF, iv_div, iv_mod, ↓bnI_s, ↓bnV_s, ↓bnJ_s, ↓bnR_s, rt_e, rt_0, rt_bz, sv_s, sv_o, ur_s, ur_e, ur_o, bz_T, bz_F, nat_eqF, Nat.reduceAdd, rgC q (by omega), a15 q hq]⟩, by omega, ?_, if_MB b4 d4, ?_⟩⟩
              · unfold chE
                rw [ex3, bnV_s, lp2, bnV_s]
              · have y1 : CE (sv (sv V8 424 8 (j3 + 1)) 426 c2 (20 % 64 + 64 * c3) 426) c c1 C := a3.ext (fun q q0 q1 => by simp (disch := first | decide | omega | (simp (disch := first | decide | omega) only [sv_s, sv_o, ur_s, ur_e, ur_o]; omega)) only [↓reduceIte, iv_add, iv_sub, iv_mul, iv_neg, iv_ltT, iv_ltF, iv_leT, iv_leF, iv_eqT, iv_eqF, iv_div, iv_mod, ↓bnI_s, ↓bnV_s, ↓bnJ_s, ↓bnR_s, rt_e, rt_0, rt_bz, sv_s, sv_o, ur_s, ur_e, ur_o, bz_T, bz_F, nat_eqF, Nat.reduceAdd, rgC q q1])
                have y2 : CE (sv (sv V8 424 8 (j3 + 1)) 426 c2 (20 % 64 + 64 * c3) 426) (c1 + 1) c2 M1 := b3.ext (fun q q0 q1 => by simp (disch := first | decide | omega | (simp (disch := first | decide | omega) only [sv_s, sv_o, ur_s, ur_e, ur_o]; omega)) only [↓reduceIte, iv_add, iv_sub, iv_mul, iv_neg, iv_ltT, iv_ltF, iv_leT, iv_leF, iv_eqT, iv_eqF, iv_div, iv_mod, ↓bnI_s, ↓bnV_s, ↓bnJ_s, ↓bnR_s, rt_e, rt_0, rt_bz, sv_s, sv_o, ur_s, ur_e, ur_o, bz_T, bz_F, nat_eqF, Nat.reduceAdd, rg1 q q0 q1])
                have y3 : CE (sv (sv V8 424 8 (j3 + 1)) 426 c2 (20 % 64 + 64 * c3) 426) (c2 + 1) c3 M2 := d3.ext (fun q q0 q1 => by simp (disch := first | decide | omega | (simp (disch := first | decide | omega) only [sv_s, sv_o, ur_s, ur_e, ur_o]; omega)) only [↓reduceIte, iv_add, iv_sub, iv_mul, iv_neg, iv_ltT, iv_ltF, iv_leT, iv_leF, iv_eqT, iv_eqF, iv_div, iv_mod, ↓bnI_s, ↓bnV_s, ↓bnJ_s, ↓bnR_s, rt_e, rt_0, rt_bz, sv_s, sv_o, ur_s, ur_e, ur_o, bz_T, bz_F, nat_eqF, Nat.reduceAdd])
                exact CE_if y1 a4 (by simp (disch := first | decide | omega | (simp (disch := first | decide | omega) only [sv_s, sv_o, ur_s, ur_e, ur_o]; omega)) only [↓reduceIte, iv_add, iv_sub, iv_mul, iv_neg, iv_ltT, iv_ltF, iv_leT, iv_leF, iv_eqT, iv_eqF, iv_div, iv_mod, ↓bnI_s, ↓bnV_s, ↓bnJ_s, ↓bnR_s, rt_e, rt_0, rt_bz, sv_s, sv_o, ur_s, ur_e, ur_o, bz_T, bz_F, nat_eqF, Nat.reduceAdd, rc1]) y2 (by simp (disch := first | decide | omega | (simp (disch := first | decide | omega) only [sv_s, sv_o, ur_s, ur_e, ur_o]; omega)) only [↓reduceIte, iv_add, iv_sub, iv_mul, iv_neg, iv_ltT, iv_ltF, iv_leT, iv_leF, iv_eqT, iv_eqF, iv_div, iv_mod, ↓bnI_s, ↓bnV_s, ↓bnJ_s, ↓bnR_s, rt_e, rt_0, rt_bz, sv_s, sv_o, ur_s, ur_e, ur_o, bz_T, bz_F, nat_eqF, Nat.reduceAdd]; omega) y3 (by omega) (by omega)
              · exact MoC.all G S a6 b6 d6 he (by omega) a2 b2 d2 a5 b5 d5 k1 k2 k3 a4
            · have ex3 := y_expect0 (J := J) F S d11 (by omega) k3 (by omega)
              have fl := d11.fail S (by omega) (f := 1) (by decide)
              obtain ⟨V', h1, h2, h3⟩ := dE (J := J) (a := c2) F fl.1 (by omega)
              have ed := y_expectd (J := J) F fl.1 (x := 21)
              refine ⟨V', ?_, Or.inr ⟨j3, 1, NoC.end_ (fr8.tr d12) h2 (fl.2.1.tr h3) (by omega), MnC.cf G S a6 b6 d6 he (by omega) a2 b2 d2 a5 b5 d5 k1 k2 k3⟩⟩
              rw [← h1]
              unfold chE
              rw [ex3, ed]
          · obtain ⟨V', h1, h2, h3⟩ := dE (J := J) (a := c2) F d1.1 (by omega)
            exact ⟨V', h1, Or.inr ⟨j, f, NoC.end_ (fr8.tr d1.2.1) h2 h3 (by have := d1.2.2; omega), MnC.ce G S a6 b6 he (by omega) a2 b2 a5 b5 k1 k2 d2⟩⟩
        · have ex2 := y_expect0 (J := J) F S b11 (by omega) k2 (by omega)
          have fl := b11.fail S (by omega) (f := 1) (by decide)
          obtain ⟨V', h1, h2, h3⟩ := dC (J := J) (a := c1) F S fl.1 he' (by omega)
          have ed := y_expectd (J := J) F fl.1 (x := 20)
          refine ⟨V', ?_, Or.inr ⟨j2, 1, NoC.end_ ((a12.tr frW).tr b12) h2 (fl.2.1.tr h3) (by omega), MnC.cd G S a6 b6 he (by omega) a2 b2 a5 b5 k1 k2⟩⟩
          rw [← h1]
          unfold chC
          rw [ex2, ed]
      · obtain ⟨V', h1, h2, h3⟩ := dC (J := J) (a := c1) F S b1.1 he' (by omega)
        exact ⟨V', h1, Or.inr ⟨j, f, NoC.end_ ((a12.tr frW).tr b1.2.1) h2 h3 (by have := b1.2.2; omega), MnC.cc G S a6 he (by omega) a2 a5 k1 b2⟩⟩
    · have ex := y_expect0 (J := J) F S a11 (by omega) k1 (by omega)
      have fl := a11.fail S (by omega) (f := 1) (by decide)
      obtain ⟨V', h1, h2, h3⟩ := dB (J := J) F S fl.1 he'
      have ed := y_expectd (J := J) F fl.1 (x := 19)
      refine ⟨V', ?_, Or.inr ⟨j1, 1, NoC.end_ a12 h2 (fl.2.1.tr h3) (by omega), MnC.cb G S a6 he (by omega) a2 a5 k1⟩⟩
      rw [← h1]
      unfold chB
      rw [ex, ed]
  · obtain ⟨V', h1, h2, h3⟩ := dB (J := J) F S a1.1 he'
    exact ⟨V', h1, Or.inr ⟨j, f, NoC.end_ a1.2.1 h2 h3 a1.2.2, MnC.ca a2⟩⟩
end
