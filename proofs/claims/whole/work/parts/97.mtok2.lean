/-! TOKENS, as the model cuts them: the next one; words asked for -/
def SGN (c : Int) : Prop := c = 35 ∨ c = 40 ∨ c = 41 ∨ c = 42 ∨ c = 43 ∨ c = 45 ∨ c = 47 ∨ c = 58 ∨ c = 59 ∨ c = 60 ∨ c = 61 ∨ c = 62
theorem sgT_sg {c : Int} (h : SGN c) (p : c ≠ 60 ∨ c ≠ 62) : sgT (sgK c) c := by
  unfold SGN at h
  rcases h with rfl | rfl | rfl | rfl | rfl | rfl | rfl | rfl | rfl | rfl | rfl | rfl
  all_goals (unfold sgT sgK; decide)
theorem sgT_no {c : Int} (h : ¬ SGN c) : sgT (sgK c) 3 := by
  unfold SGN at h
  unfold sgK
  rw [if_neg (by omega), if_neg (by omega), if_neg (by omega), if_neg (by omega), if_neg (by omega), if_neg (by omega), if_neg (by omega), if_neg (by omega), if_neg (by omega), if_neg (by omega), if_neg (by omega)]
  unfold sgT
  omega
section
variable {U K : Vm} {z : Zz} {b : Int → Int} {n : Int}
theorem y_isSign {c : Int} {h : Mem} (hc : 0 ≤ c ∧ c < 256) : ∃ x : Int, cA m_M_isSign [.int (iv c)] h = some (.int (iv x), h) ∧ ((x = 1 ∧ SGN c) ∨ (x = 0 ∧ ¬ SGN c)) := by
  by_cases q : SGN c
  · refine ⟨1, ?_, Or.inl ⟨rfl, q⟩⟩
    unfold SGN at q
    rcases q with rfl | rfl | rfl | rfl | rfl | rfl | rfl | rfl | rfl | rfl | rfl | rfl
    all_goals simp (disch := first | decide | omega | (simp (disch := first | decide | omega) only [sv_s, sv_o, ur_s, ur_e, ur_o]; omega)) only [↓reduceIte, iv_add, iv_sub, iv_mul, iv_neg, iv_ltT, iv_ltF, iv_leT, iv_leF, iv_eqT, iv_eqF, iv_div, iv_mod, ↓bnI_s, ↓bnV_s, ↓bnJ_s, ↓bnR_s, rt_e, rt_0, rt_bz, sv_s, sv_o, ur_s, ur_e, ur_o, bz_T, bz_F, nat_eqF, Nat.reduceAdd, ↓q_M_isSign, ↓q_M_isSign_128, ↓q_M_isSign_130, il_0, il_1, il_35, il_40, il_41, il_42, il_43, il_45, il_47, il_58, il_59, il_60, il_61, il_62, il_128, il_130]
  · refine ⟨0, ?_, Or.inr ⟨rfl, q⟩⟩
    unfold SGN at q
    have q1 : c < 35 ∨ 35 < c := by omega
    have q2 : c < 40 ∨ 43 < c := by omega
    have q3 : c < 45 ∨ 45 < c := by omega
    have q4 : c < 47 ∨ 47 < c := by omega
    have q5 : c < 58 ∨ 62 < c := by omega
    clear q
    have e1 : (iv c = iv 35) = False := iv_eqF (by omega)
    have e2 : (iv c = iv 40) = False := iv_eqF (by omega)
    have e3 : (iv c = iv 41) = False := iv_eqF (by omega)
    have e4 : (iv c = iv 42) = False := iv_eqF (by omega)
    have e5 : (iv c = iv 43) = False := iv_eqF (by omega)
    have e6 : (iv c = iv 45) = False := iv_eqF (by omega)
    have e7 : (iv c = iv 47) = False := iv_eqF (by omega)
    have e8 : (iv c = iv 58) = False := iv_eqF (by omega)
    have e9 : (iv c = iv 59) = False := iv_eqF (by omega)
    have e10 : (iv c = iv 60) = False := iv_eqF (by omega)
    have e11 : (iv c = iv 61) = False := iv_eqF (by omega)
    have e12 : (iv c = iv 62) = False := iv_eqF (by omega)
    simp (disch := first | decide | omega | (simp (disch := first | decide | omega) only [sv_s, sv_o, ur_s, ur_e, ur_o]; omega)) only [↓reduceIte, iv_add, iv_sub, iv_mul, iv_neg, iv_ltT, iv_ltF, iv_leT, iv_leF, iv_eqT, iv_eqF, iv_div, iv_mod, ↓bnI_s, ↓bnV_s, ↓bnJ_s, ↓bnR_s, rt_e, rt_0, rt_bz, sv_s, sv_o, ur_s, ur_e, ur_o, bz_T, bz_F, nat_eqF, Nat.reduceAdd, ↓q_M_isSign, ↓q_M_isSign_128, ↓q_M_isSign_130, il_0, il_1, il_35, il_40, il_41, il_42, il_43, il_45, il_47, il_58, il_59, il_60, il_61, il_62, il_128, il_130, e1, e2, e3, e4, e5, e6, e7, e8, e9, e10, e11, e12]
theorem m_skip (F : Fix z) {p : Int} : ∀ (m : Nat) (U : Vm) (c : Int), B2 U b n → U 435 7 = c → Rn isSp b n c p → c + m = p → 0 ≤ c → ∃ U', rX m_M_nextToken m_M_nextToken 0 [.ref 435, dd] [] (em U K z) = rX m_M_nextToken m_M_nextToken 0 [.ref 435, dd] [] (em U' K z) ∧ frN U U' ∧ U' 435 7 = p := by
  intro m
  induction m with
  | zero => exact fun U c B h7 R hm c0 => ⟨U, rfl, frN.rfl_, by omega⟩
  | succ m ih =>
    intro U c B h7 R hm c0
    have R1 := R.1
    have d := R.2.1 c (by omega) (by omega)
    have st := R.step (by omega) d
    have by_ := y_M_byteAt (K := K) F B (i := c) (by omega)
    obtain ⟨U', e1, e2, e3⟩ := ih (sv U 435 7 (c + 1)) (c + 1) ((frN.w (by omega)).b2 B) (by simp (disch := first | decide | omega | (simp (disch := first | decide | omega) only [sv_s, sv_o, ur_s, ur_e, ur_o]; omega)) only [↓reduceIte, iv_add, iv_sub, iv_mul, iv_neg, iv_ltT, iv_ltF, iv_leT, iv_leF, iv_eqT, iv_eqF, iv_div, iv_mod, ↓bnI_s, ↓bnV_s, ↓bnJ_s, ↓bnR_s, rt_e, rt_0, rt_bz, sv_s, sv_o, ur_s, ur_e, ur_o, bz_T, bz_F, nat_eqF, Nat.reduceAdd]) st.2 (by omega) (by omega)
    refine ⟨U', ?_, (frN.w (by omega)).tr e2, e3⟩
    rw [← e1]
    unfold isSp at d
    rcases d with d | d
    · rw [d] at by_
      conv => lhs; rw [q_M_nextToken_0]
      simp (disch := first | decide | omega | (simp (disch := first | decide | omega) only [sv_s, sv_o, ur_s, ur_e, ur_o]; omega)) only [↓reduceIte, iv_add, iv_sub, iv_mul, iv_neg, iv_ltT, iv_ltF, iv_leT, iv_leF, iv_eqT, iv_eqF, iv_div, iv_mod, ↓bnI_s, ↓bnV_s, ↓bnJ_s, ↓bnR_s, rt_e, rt_0, rt_bz, sv_s, sv_o, ur_s, ur_e, ur_o, bz_T, bz_F, nat_eqF, Nat.reduceAdd, ↓gI_435_7 F, ↓pI_435_7 F, ↓pI_435_8 F, ↓pI_435_9 F, ↓pJ_435_11 F, ↓pI_435_10 F, il_0, il_1, il_2, il_3, il_7, il_8, il_9, il_10, il_11, il_32, il_85, il_168, il_247, h7, by_]
    · rw [d] at by_
      conv => lhs; rw [q_M_nextToken_0]
      simp (disch := first | decide | omega | (simp (disch := first | decide | omega) only [sv_s, sv_o, ur_s, ur_e, ur_o]; omega)) only [↓reduceIte, iv_add, iv_sub, iv_mul, iv_neg, iv_ltT, iv_ltF, iv_leT, iv_leF, iv_eqT, iv_eqF, iv_div, iv_mod, ↓bnI_s, ↓bnV_s, ↓bnJ_s, ↓bnR_s, rt_e, rt_0, rt_bz, sv_s, sv_o, ur_s, ur_e, ur_o, bz_T, bz_F, nat_eqF, Nat.reduceAdd, ↓gI_435_7 F, ↓pI_435_7 F, ↓pI_435_8 F, ↓pI_435_9 F, ↓pJ_435_11 F, ↓pI_435_10 F, il_0, il_1, il_2, il_3, il_7, il_8, il_9, il_10, il_11, il_32, il_85, il_168, il_247, h7, by_]
/-- the next token -/
theorem y_nextT (F : Fix z) (B : B2 U b n) {c p k e v : Int} (h7 : U 435 7 = c) (hc : 0 ≤ c ∧ c ≤ n) (T : Tok b n c p k e v) : ∃ U' K', cA m_M_nextToken [.ref 435] (em U K z) = some (.null, em U' K' z) ∧ frN U U' ∧ MT U' K' b p k e v := by
  obtain ⟨R, kv⟩ := T
  have R1 := R.1
  have b3 := B.2.2.1
  obtain ⟨U1, s1, s2, s3⟩ := m_skip (K := K) F (p - c).toNat U c B h7 R (by omega) hc.1
  have B1 := s2.b2 B
  have st : cA m_M_nextToken [.ref 435] (em U K z) = rX m_M_nextToken m_M_nextToken 0 [.ref 435, dd] [] (em U1 K z) := by
    rw [← s1, q_M_nextToken, gd_435 F, q_M_nextToken_0]
  rw [st]
  have fr8 : frN U (sv U1 435 8 p) := s2.tr (frN.w (by omega))
  rcases kv with ⟨k1, k2, k3, k4⟩ | ⟨k1, k2, k3, k4, k5⟩ | ⟨k1, k2, k3, k4, k5⟩ | ⟨k1, k2, k3, k4, k5, k6⟩
  · have by_ := y_M_byteAt0 (K := K) F B1 (i := p) (by omega)
    have by8 := y_M_byteAt0 (K := K) F ((frN.w (U := U1) (j := 8) (x := p) (by omega)).b2 B1) (i := p) (by omega)
    refine ⟨sv (sv U1 435 8 p) 435 9 0, K, ?_, fr8.tr (frN.w (by omega)), by simp (disch := first | decide | omega | (simp (disch := first | decide | omega) only [sv_s, sv_o, ur_s, ur_e, ur_o]; omega)) only [↓reduceIte, iv_add, iv_sub, iv_mul, iv_neg, iv_ltT, iv_ltF, iv_leT, iv_leF, iv_eqT, iv_eqF, iv_div, iv_mod, ↓bnI_s, ↓bnV_s, ↓bnJ_s, ↓bnR_s, rt_e, rt_0, rt_bz, sv_s, sv_o, ur_s, ur_e, ur_o, bz_T, bz_F, nat_eqF, Nat.reduceAdd, s3]; omega, by simp (disch := first | decide | omega | (simp (disch := first | decide | omega) only [sv_s, sv_o, ur_s, ur_e, ur_o]; omega)) only [↓reduceIte, iv_add, iv_sub, iv_mul, iv_neg, iv_ltT, iv_ltF, iv_leT, iv_leF, iv_eqT, iv_eqF, iv_div, iv_mod, ↓bnI_s, ↓bnV_s, ↓bnJ_s, ↓bnR_s, rt_e, rt_0, rt_bz, sv_s, sv_o, ur_s, ur_e, ur_o, bz_T, bz_F, nat_eqF, Nat.reduceAdd], Or.inl ⟨k3, by simp (disch := first | decide | omega | (simp (disch := first | decide | omega) only [sv_s, sv_o, ur_s, ur_e, ur_o]; omega)) only [↓reduceIte, iv_add, iv_sub, iv_mul, iv_neg, iv_ltT, iv_ltF, iv_leT, iv_leF, iv_eqT, iv_eqF, iv_div, iv_mod, ↓bnI_s, ↓bnV_s, ↓bnJ_s, ↓bnR_s, rt_e, rt_0, rt_bz, sv_s, sv_o, ur_s, ur_e, ur_o, bz_T, bz_F, nat_eqF, Nat.reduceAdd]⟩⟩
    conv => lhs; rw [q_M_nextToken_0]
    simp (disch := first | decide | omega | (simp (disch := first | decide | omega) only [sv_s, sv_o, ur_s, ur_e, ur_o]; omega)) only [↓reduceIte, iv_add, iv_sub, iv_mul, iv_neg, iv_ltT, iv_ltF, iv_leT, iv_leF, iv_eqT, iv_eqF, iv_div, iv_mod, ↓bnI_s, ↓bnV_s, ↓bnJ_s, ↓bnR_s, rt_e, rt_0, rt_bz, sv_s, sv_o, ur_s, ur_e, ur_o, bz_T, bz_F, nat_eqF, Nat.reduceAdd, ↓gI_435_7 F, ↓pI_435_7 F, ↓pI_435_8 F, ↓pI_435_9 F, ↓pJ_435_11 F, ↓pI_435_10 F, il_0, il_1, il_2, il_3, il_7, il_8, il_9, il_10, il_11, il_32, il_85, il_168, il_247, s3, by_, by8]
  · have by_ := y_M_byteAt (K := K) F B1 (i := p) (by omega)
    have by8 := y_M_byteAt (K := K) F ((frN.w (U := U1) (j := 8) (x := p) (by omega)).b2 B1) (i := p) (by omega)
    have dg := y_isFigure (c := b p) (h := em (sv U1 435 8 p) K z) (by have := B.2.2.2 p (by omega) k1; omega)
    have k2' := k2
    unfold isDg at k2'
    rw [bz_T k2'] at dg
    have k3r := k3.1
    obtain ⟨U2, e1, e2, e3, e4, e5, e6⟩ := m_dg (K := K) F (e - p).toNat (sv (sv (sv U1 435 8 p) 435 9 1) 435 10 0) p 0 ((frN.w (by omega)).b2 ((frN.w (by omega)).b2 ((frN.w (by omega)).b2 B1))) (by simp (disch := first | decide | omega | (simp (disch := first | decide | omega) only [sv_s, sv_o, ur_s, ur_e, ur_o]; omega)) only [↓reduceIte, iv_add, iv_sub, iv_mul, iv_neg, iv_ltT, iv_ltF, iv_leT, iv_leF, iv_eqT, iv_eqF, iv_div, iv_mod, ↓bnI_s, ↓bnV_s, ↓bnJ_s, ↓bnR_s, rt_e, rt_0, rt_bz, sv_s, sv_o, ur_s, ur_e, ur_o, bz_T, bz_F, nat_eqF, Nat.reduceAdd, s3]) (by simp (disch := first | decide | omega | (simp (disch := first | decide | omega) only [sv_s, sv_o, ur_s, ur_e, ur_o]; omega)) only [↓reduceIte, iv_add, iv_sub, iv_mul, iv_neg, iv_ltT, iv_ltF, iv_leT, iv_leF, iv_eqT, iv_eqF, iv_div, iv_mod, ↓bnI_s, ↓bnV_s, ↓bnJ_s, ↓bnR_s, rt_e, rt_0, rt_bz, sv_s, sv_o, ur_s, ur_e, ur_o, bz_T, bz_F, nat_eqF, Nat.reduceAdd]) k3 (by omega) (by omega) (by omega)
    refine ⟨U2, K, ?_, fr8.tr ((frN.w (by omega)).tr ((frN.w (by omega)).tr e2)), e3, e4.trans (by simp (disch := first | decide | omega | (simp (disch := first | decide | omega) only [sv_s, sv_o, ur_s, ur_e, ur_o]; omega)) only [↓reduceIte, iv_add, iv_sub, iv_mul, iv_neg, iv_ltT, iv_ltF, iv_leT, iv_leF, iv_eqT, iv_eqF, iv_div, iv_mod, ↓bnI_s, ↓bnV_s, ↓bnJ_s, ↓bnR_s, rt_e, rt_0, rt_bz, sv_s, sv_o, ur_s, ur_e, ur_o, bz_T, bz_F, nat_eqF, Nat.reduceAdd]), Or.inr (Or.inl ⟨k4, e5.trans (by simp (disch := first | decide | omega | (simp (disch := first | decide | omega) only [sv_s, sv_o, ur_s, ur_e, ur_o]; omega)) only [↓reduceIte, iv_add, iv_sub, iv_mul, iv_neg, iv_ltT, iv_ltF, iv_leT, iv_leF, iv_eqT, iv_eqF, iv_div, iv_mod, ↓bnI_s, ↓bnV_s, ↓bnJ_s, ↓bnR_s, rt_e, rt_0, rt_bz, sv_s, sv_o, ur_s, ur_e, ur_o, bz_T, bz_F, nat_eqF, Nat.reduceAdd]), ?_⟩)⟩
    · rw [← e1]
      unfold isDg at k2
      generalize b p = x at *
      conv => lhs; rw [q_M_nextToken_0]
      simp (disch := first | decide | omega | (simp (disch := first | decide | omega) only [sv_s, sv_o, ur_s, ur_e, ur_o]; omega)) only [↓reduceIte, iv_add, iv_sub, iv_mul, iv_neg, iv_ltT, iv_ltF, iv_leT, iv_leF, iv_eqT, iv_eqF, iv_div, iv_mod, ↓bnI_s, ↓bnV_s, ↓bnJ_s, ↓bnR_s, rt_e, rt_0, rt_bz, sv_s, sv_o, ur_s, ur_e, ur_o, bz_T, bz_F, nat_eqF, Nat.reduceAdd, ↓gI_435_7 F, ↓pI_435_7 F, ↓pI_435_8 F, ↓pI_435_9 F, ↓pJ_435_11 F, ↓pI_435_10 F, il_0, il_1, il_2, il_3, il_7, il_8, il_9, il_10, il_11, il_32, il_85, il_168, il_247, s3, by_, by8, dg]
    · rw [k5, e6]
      exact nm_R b (e - p).toNat p 0 0 (fun j j0 j1 => k3.2.1 j j0 (by omega)) (Or.inl (by omega))
  · have by_ := y_M_byteAt (K := K) F B1 (i := p) (by omega)
    have by8 := y_M_byteAt (K := K) F ((frN.w (U := U1) (j := 8) (x := p) (by omega)).b2 B1) (i := p) (by omega)
    have rg := B.2.2.2 p (by omega) k1
    have dg := y_isFigure (c := b p) (h := em (sv U1 435 8 p) K z) (by omega)
    have lt := y_isLetterByte (c := b p) (h := em (sv U1 435 8 p) K z) (by omega)
    unfold isLt at k2
    rw [bz_F (by omega)] at dg
    rw [bz_T k2] at lt
    have k3r := k3.1
    obtain ⟨U2, K2, e1, e2, e3, e4, e5, e6⟩ := m_lt F (e - p).toNat (sv (sv U1 435 8 p) 435 9 2) (sv K 435 11 0) p 0 ((frN.w (by omega)).b2 ((frN.w (by omega)).b2 B1)) (by simp (disch := first | decide | omega | (simp (disch := first | decide | omega) only [sv_s, sv_o, ur_s, ur_e, ur_o]; omega)) only [↓reduceIte, iv_add, iv_sub, iv_mul, iv_neg, iv_ltT, iv_ltF, iv_leT, iv_leF, iv_eqT, iv_eqF, iv_div, iv_mod, ↓bnI_s, ↓bnV_s, ↓bnJ_s, ↓bnR_s, rt_e, rt_0, rt_bz, sv_s, sv_o, ur_s, ur_e, ur_o, bz_T, bz_F, nat_eqF, Nat.reduceAdd, s3]) (by simp (disch := first | decide | omega | (simp (disch := first | decide | omega) only [sv_s, sv_o, ur_s, ur_e, ur_o]; omega)) only [↓reduceIte, iv_add, iv_sub, iv_mul, iv_neg, iv_ltT, iv_ltF, iv_leT, iv_leF, iv_eqT, iv_eqF, iv_div, iv_mod, ↓bnI_s, ↓bnV_s, ↓bnJ_s, ↓bnR_s, rt_e, rt_0, rt_bz, sv_s, sv_o, ur_s, ur_e, ur_o, bz_T, bz_F, nat_eqF, Nat.reduceAdd]) k3 (by omega) (by omega) (by omega)
    refine ⟨U2, K2, ?_, fr8.tr ((frN.w (by omega)).tr e2), e3, e4.trans (by simp (disch := first | decide | omega | (simp (disch := first | decide | omega) only [sv_s, sv_o, ur_s, ur_e, ur_o]; omega)) only [↓reduceIte, iv_add, iv_sub, iv_mul, iv_neg, iv_ltT, iv_ltF, iv_leT, iv_leF, iv_eqT, iv_eqF, iv_div, iv_mod, ↓bnI_s, ↓bnV_s, ↓bnJ_s, ↓bnR_s, rt_e, rt_0, rt_bz, sv_s, sv_o, ur_s, ur_e, ur_o, bz_T, bz_F, nat_eqF, Nat.reduceAdd]), Or.inr (Or.inr (Or.inl ⟨e5.trans (by simp (disch := first | decide | omega | (simp (disch := first | decide | omega) only [sv_s, sv_o, ur_s, ur_e, ur_o]; omega)) only [↓reduceIte, iv_add, iv_sub, iv_mul, iv_neg, iv_ltT, iv_ltF, iv_leT, iv_leF, iv_eqT, iv_eqF, iv_div, iv_mod, ↓bnI_s, ↓bnV_s, ↓bnJ_s, ↓bnR_s, rt_e, rt_0, rt_bz, sv_s, sv_o, ur_s, ur_e, ur_o, bz_T, bz_F, nat_eqF, Nat.reduceAdd]), k4, ?_, e6, k3r.1⟩))⟩
    · rw [← e1]
      have n1 : b p < 32 ∨ 32 < b p := by omega
      have n2 : b p < 10 ∨ 10 < b p := by omega
      have j0 : (0 : Int64) = jv 0 := rfl
      generalize b p = x at *
      conv => lhs; rw [q_M_nextToken_0]
      simp (disch := first | decide | omega | (simp (disch := first | decide | omega) only [sv_s, sv_o, ur_s, ur_e, ur_o]; omega)) only [↓reduceIte, iv_add, iv_sub, iv_mul, iv_neg, iv_ltT, iv_ltF, iv_leT, iv_leF, iv_eqT, iv_eqF, iv_div, iv_mod, ↓bnI_s, ↓bnV_s, ↓bnJ_s, ↓bnR_s, rt_e, rt_0, rt_bz, sv_s, sv_o, ur_s, ur_e, ur_o, bz_T, bz_F, nat_eqF, Nat.reduceAdd, ↓gI_435_7 F, ↓pI_435_7 F, ↓pI_435_8 F, ↓pI_435_9 F, ↓pJ_435_11 F, ↓pI_435_10 F, il_0, il_1, il_2, il_3, il_7, il_8, il_9, il_10, il_11, il_32, il_85, il_168, il_247, s3, by_, by8, dg, lt, j0]
    · exact fwl_mem b (e - p).toNat p (fun j j0 j1 => by
        have := k3.2.1 j j0 (by omega)
        unfold isLt at this
        omega)
  · have by_ := y_M_byteAt (K := K) F B1 (i := p) (by omega)
    have by8 := y_M_byteAt (K := K) F ((frN.w (U := U1) (j := 8) (x := p) (by omega)).b2 B1) (i := p) (by omega)
    have rg := B.2.2.2 p (by omega) k1
    have dg := y_isFigure (c := b p) (h := em (sv U1 435 8 p) K z) (by omega)
    have lt := y_isLetterByte (c := b p) (h := em (sv U1 435 8 p) K z) (by omega)
    unfold isSp at k2
    unfold isDg at k3
    unfold isLt at k4
    rw [bz_F k3] at dg
    rw [bz_F k4] at lt
    obtain ⟨x, sn, sx⟩ := y_isSign (c := b p) (h := em (sv U1 435 8 p) K z) rg
    have n1 : b p < 32 ∨ 32 < b p := by omega
    have n2 : b p < 10 ∨ 10 < b p := by omega
    have x01 : x = 0 ∨ x = 1 := by omega
    obtain ⟨tt, ht⟩ : ∃ tt, tt = if x = 1 then b p else 3 := ⟨_, rfl⟩
    have step : rX m_M_nextToken m_M_nextToken 0 [.ref 435, dd] [] (em U1 K z) = rX m_M_nextToken m_M_nextToken 247 [.ref 435, .int (iv (b p))] [.int (iv tt), .ref 435] (em (sv U1 435 8 p) K z) := by
      rcases sx with ⟨x1, _⟩ | ⟨x1, _⟩
      · have ht1 : tt = b p := by rw [ht, if_pos x1]
        rw [ht1]
        rw [x1] at sn
        clear ht ht1 k5
        generalize b p = y at *
        conv => lhs; rw [q_M_nextToken_0]
        simp (disch := first | decide | omega | (simp (disch := first | decide | omega) only [sv_s, sv_o, ur_s, ur_e, ur_o]; omega)) only [↓reduceIte, iv_add, iv_sub, iv_mul, iv_neg, iv_ltT, iv_ltF, iv_leT, iv_leF, iv_eqT, iv_eqF, iv_div, iv_mod, ↓bnI_s, ↓bnV_s, ↓bnJ_s, ↓bnR_s, rt_e, rt_0, rt_bz, sv_s, sv_o, ur_s, ur_e, ur_o, bz_T, bz_F, nat_eqF, Nat.reduceAdd, ↓gI_435_7 F, ↓pI_435_7 F, ↓pI_435_8 F, ↓pI_435_9 F, ↓pJ_435_11 F, ↓pI_435_10 F, il_0, il_1, il_2, il_3, il_7, il_8, il_9, il_10, il_11, il_32, il_85, il_168, il_247, s3, by_, by8, dg, lt, sn]
      · have ht1 : tt = 3 := by rw [ht, if_neg (by omega)]
        rw [ht1]
        rw [x1] at sn
        clear ht ht1 k5
        generalize b p = y at *
        conv => lhs; rw [q_M_nextToken_0]
        simp (disch := first | decide | omega | (simp (disch := first | decide | omega) only [sv_s, sv_o, ur_s, ur_e, ur_o]; omega)) only [↓reduceIte, iv_add, iv_sub, iv_mul, iv_neg, iv_ltT, iv_ltF, iv_leT, iv_leF, iv_eqT, iv_eqF, iv_div, iv_mod, ↓bnI_s, ↓bnV_s, ↓bnJ_s, ↓bnR_s, rt_e, rt_0, rt_bz, sv_s, sv_o, ur_s, ur_e, ur_o, bz_T, bz_F, nat_eqF, Nat.reduceAdd, ↓gI_435_7 F, ↓pI_435_7 F, ↓pI_435_8 F, ↓pI_435_9 F, ↓pJ_435_11 F, ↓pI_435_10 F, il_0, il_1, il_2, il_3, il_7, il_8, il_9, il_10, il_11, il_32, il_85, il_168, il_247, s3, by_, by8, dg, lt, sn]
    rw [step]
    obtain ⟨V1, hV1⟩ : ∃ V1, V1 = sv (sv (sv U1 435 8 p) 435 9 tt) 435 7 (p + 1) := ⟨_, rfl⟩
    have f1 : frN U V1 := by rw [hV1]; exact fr8.tr ((frN.w (by omega)).tr (frN.w (by omega)))
    obtain ⟨d, d1, d2, d3, d4⟩ := y_at (K := K) F (f1.b2 B) (i := p + 1) (by omega)
    have v7 : V1 435 7 = p + 1 := by rw [hV1]; simp (disch := first | decide | omega | (simp (disch := first | decide | omega) only [sv_s, sv_o, ur_s, ur_e, ur_o]; omega)) only [↓reduceIte, iv_add, iv_sub, iv_mul, iv_neg, iv_ltT, iv_ltF, iv_leT, iv_leF, iv_eqT, iv_eqF, iv_div, iv_mod, ↓bnI_s, ↓bnV_s, ↓bnJ_s, ↓bnR_s, rt_e, rt_0, rt_bz, sv_s, sv_o, ur_s, ur_e, ur_o, bz_T, bz_F, nat_eqF, Nat.reduceAdd]
    have v8 : V1 435 8 = p := by rw [hV1]; simp (disch := first | decide | omega | (simp (disch := first | decide | omega) only [sv_s, sv_o, ur_s, ur_e, ur_o]; omega)) only [↓reduceIte, iv_add, iv_sub, iv_mul, iv_neg, iv_ltT, iv_ltF, iv_leT, iv_leF, iv_eqT, iv_eqF, iv_div, iv_mod, ↓bnI_s, ↓bnV_s, ↓bnJ_s, ↓bnR_s, rt_e, rt_0, rt_bz, sv_s, sv_o, ur_s, ur_e, ur_o, bz_T, bz_F, nat_eqF, Nat.reduceAdd]
    have v9 : V1 435 9 = tt := by rw [hV1]; simp (disch := first | decide | omega | (simp (disch := first | decide | omega) only [sv_s, sv_o, ur_s, ur_e, ur_o]; omega)) only [↓reduceIte, iv_add, iv_sub, iv_mul, iv_neg, iv_ltT, iv_ltF, iv_leT, iv_leF, iv_eqT, iv_eqF, iv_div, iv_mod, ↓bnI_s, ↓bnV_s, ↓bnJ_s, ↓bnR_s, rt_e, rt_0, rt_bz, sv_s, sv_o, ur_s, ur_e, ur_o, bz_T, bz_F, nat_eqF, Nat.reduceAdd]
    have two : rX m_M_nextToken m_M_nextToken 247 [.ref 435, .int (iv (b p))] [.int (iv tt), .ref 435] (em (sv U1 435 8 p) K z) = if b p = 60 ∨ b p = 62 then rX m_M_nextToken m_M_nextToken 272 [.ref 435, .int (iv (b p))] [] (em V1 K z) else some (.null, em V1 K z) := by
      rw [hV1]
      by_cases q1 : b p = 60
      · rw [if_pos (Or.inl q1), q1]
        (rw [q_M_nextToken_247]; simp (disch := first | decide | omega | (simp (disch := first | decide | omega) only [sv_s, sv_o, ur_s, ur_e, ur_o]; omega)) only [↓reduceIte, iv_add, iv_sub, iv_mul, iv_neg, iv_ltT, iv_ltF, iv_leT, iv_leF, iv_eqT, iv_eqF, iv_div, iv_mod, ↓bnI_s, ↓bnV_s, ↓bnJ_s, ↓bnR_s, rt_e, rt_0, rt_bz, sv_s, sv_o, ur_s, ur_e, ur_o, bz_T, bz_F, nat_eqF, Nat.reduceAdd, ↓gI_435_7 F, ↓pI_435_9 F, ↓pI_435_7 F, il_0, il_1, il_7, il_9, il_11, il_60, il_62, il_247, il_272, s3])
      · by_cases q2 : b p = 62
        · rw [if_pos (Or.inr q2), q2]
          (rw [q_M_nextToken_247]; simp (disch := first | decide | omega | (simp (disch := first | decide | omega) only [sv_s, sv_o, ur_s, ur_e, ur_o]; omega)) only [↓reduceIte, iv_add, iv_sub, iv_mul, iv_neg, iv_ltT, iv_ltF, iv_leT, iv_leF, iv_eqT, iv_eqF, iv_div, iv_mod, ↓bnI_s, ↓bnV_s, ↓bnJ_s, ↓bnR_s, rt_e, rt_0, rt_bz, sv_s, sv_o, ur_s, ur_e, ur_o, bz_T, bz_F, nat_eqF, Nat.reduceAdd, ↓gI_435_7 F, ↓pI_435_9 F, ↓pI_435_7 F, il_0, il_1, il_7, il_9, il_11, il_60, il_62, il_247, il_272, s3])
        · rw [if_neg (by omega)]
          have q1' : b p < 60 ∨ 60 < b p := by omega
          have q2' : b p < 62 ∨ 62 < b p := by omega
          clear k5 sx by_ by8 dg lt sn
          generalize b p = y at *
          (rw [q_M_nextToken_247]; simp (disch := first | decide | omega | (simp (disch := first | decide | omega) only [sv_s, sv_o, ur_s, ur_e, ur_o]; omega)) only [↓reduceIte, iv_add, iv_sub, iv_mul, iv_neg, iv_ltT, iv_ltF, iv_leT, iv_leF, iv_eqT, iv_eqF, iv_div, iv_mod, ↓bnI_s, ↓bnV_s, ↓bnJ_s, ↓bnR_s, rt_e, rt_0, rt_bz, sv_s, sv_o, ur_s, ur_e, ur_o, bz_T, bz_F, nat_eqF, Nat.reduceAdd, ↓gI_435_7 F, ↓pI_435_9 F, ↓pI_435_7 F, il_0, il_1, il_7, il_9, il_11, il_60, il_62, il_247, il_272, s3])
    rw [two]
    have d61 : d = 61 ↔ p + 1 < n ∧ b (p + 1) = 61 := by
      by_cases q : p + 1 < n
      · rw [d3 q]; exact ⟨fun h => ⟨q, h⟩, fun h => h.2⟩
      · rw [d4 (by omega)]; exact ⟨fun h => absurd h (by decide), fun h => absurd h.1 q⟩
    have plain : ¬ ((b p = 60 ∨ b p = 62) ∧ d = 61) → (if b p = 60 ∨ b p = 62 then rX m_M_nextToken m_M_nextToken 272 [.ref 435, .int (iv (b p))] [] (em V1 K z) else some (.null, em V1 K z)) = some (.null, em V1 K z) := by
      intro no
      by_cases q1 : b p = 60 ∨ b p = 62
      · rw [if_pos q1]
        have q2 : d < 61 ∨ 61 < d := by omega
        clear no d61
        generalize b p = y at *
        (rw [q_M_nextToken_272]; simp (disch := first | decide | omega | (simp (disch := first | decide | omega) only [sv_s, sv_o, ur_s, ur_e, ur_o]; omega)) only [↓reduceIte, iv_add, iv_sub, iv_mul, iv_neg, iv_ltT, iv_ltF, iv_leT, iv_leF, iv_eqT, iv_eqF, iv_div, iv_mod, ↓bnI_s, ↓bnV_s, ↓bnJ_s, ↓bnR_s, rt_e, rt_0, rt_bz, sv_s, sv_o, ur_s, ur_e, ur_o, bz_T, bz_F, nat_eqF, Nat.reduceAdd, ↓gI_435_7 F, ↓pI_435_9 F, ↓pI_435_7 F, il_0, il_1, il_4, il_5, il_7, il_9, il_11, il_60, il_61, il_272, v7, d1])
      · rw [if_neg q1]
    rcases k5 with ⟨a1, a2, a3, a4⟩ | ⟨a1, a2, a3, a4⟩ | ⟨a1, a2, a3⟩
    · have dd1 := d61.mpr a2
      rw [dd1] at d1
      refine ⟨sv (sv V1 435 9 4) 435 7 (p + 2), K, ?_, f1.tr ((frN.w (by omega)).tr (frN.w (by omega))), by rw [a4]; simp (disch := first | decide | omega | (simp (disch := first | decide | omega) only [sv_s, sv_o, ur_s, ur_e, ur_o]; omega)) only [↓reduceIte, iv_add, iv_sub, iv_mul, iv_neg, iv_ltT, iv_ltF, iv_leT, iv_leF, iv_eqT, iv_eqF, iv_div, iv_mod, ↓bnI_s, ↓bnV_s, ↓bnJ_s, ↓bnR_s, rt_e, rt_0, rt_bz, sv_s, sv_o, ur_s, ur_e, ur_o, bz_T, bz_F, nat_eqF, Nat.reduceAdd], by simp (disch := first | decide | omega | (simp (disch := first | decide | omega) only [sv_s, sv_o, ur_s, ur_e, ur_o]; omega)) only [↓reduceIte, iv_add, iv_sub, iv_mul, iv_neg, iv_ltT, iv_ltF, iv_leT, iv_leF, iv_eqT, iv_eqF, iv_div, iv_mod, ↓bnI_s, ↓bnV_s, ↓bnJ_s, ↓bnR_s, rt_e, rt_0, rt_bz, sv_s, sv_o, ur_s, ur_e, ur_o, bz_T, bz_F, nat_eqF, Nat.reduceAdd, v8], Or.inr (Or.inr (Or.inr ?_))⟩
      · rw [if_pos (Or.inl a1), a1]
        have e12 : p + 1 + 1 = p + 2 := by omega
        have by9 := d1
        have d1' : cA m_M_byteAt [.ref 435, .int (iv (p + 1))] (em V1 K z) = some (.int (iv 61), em V1 K z) := d1
        (rw [q_M_nextToken_272]; simp (disch := first | decide | omega | (simp (disch := first | decide | omega) only [sv_s, sv_o, ur_s, ur_e, ur_o]; omega)) only [↓reduceIte, iv_add, iv_sub, iv_mul, iv_neg, iv_ltT, iv_ltF, iv_leT, iv_leF, iv_eqT, iv_eqF, iv_div, iv_mod, ↓bnI_s, ↓bnV_s, ↓bnJ_s, ↓bnR_s, rt_e, rt_0, rt_bz, sv_s, sv_o, ur_s, ur_e, ur_o, bz_T, bz_F, nat_eqF, Nat.reduceAdd, ↓gI_435_7 F, ↓pI_435_9 F, ↓pI_435_7 F, il_0, il_1, il_4, il_5, il_7, il_9, il_11, il_60, il_61, il_272, v7, d1', e12])
      · have e9 : sv (sv V1 435 9 4) 435 7 (p + 2) 435 9 = 4 := by simp (disch := first | decide | omega | (simp (disch := first | decide | omega) only [sv_s, sv_o, ur_s, ur_e, ur_o]; omega)) only [↓reduceIte, iv_add, iv_sub, iv_mul, iv_neg, iv_ltT, iv_ltF, iv_leT, iv_leF, iv_eqT, iv_eqF, iv_div, iv_mod, ↓bnI_s, ↓bnV_s, ↓bnJ_s, ↓bnR_s, rt_e, rt_0, rt_bz, sv_s, sv_o, ur_s, ur_e, ur_o, bz_T, bz_F, nat_eqF, Nat.reduceAdd]
        rw [e9, a3]; unfold sgT; omega
    · have dd1 := d61.mpr a2
      rw [dd1] at d1
      refine ⟨sv (sv V1 435 9 5) 435 7 (p + 2), K, ?_, f1.tr ((frN.w (by omega)).tr (frN.w (by omega))), by rw [a4]; simp (disch := first | decide | omega | (simp (disch := first | decide | omega) only [sv_s, sv_o, ur_s, ur_e, ur_o]; omega)) only [↓reduceIte, iv_add, iv_sub, iv_mul, iv_neg, iv_ltT, iv_ltF, iv_leT, iv_leF, iv_eqT, iv_eqF, iv_div, iv_mod, ↓bnI_s, ↓bnV_s, ↓bnJ_s, ↓bnR_s, rt_e, rt_0, rt_bz, sv_s, sv_o, ur_s, ur_e, ur_o, bz_T, bz_F, nat_eqF, Nat.reduceAdd], by simp (disch := first | decide | omega | (simp (disch := first | decide | omega) only [sv_s, sv_o, ur_s, ur_e, ur_o]; omega)) only [↓reduceIte, iv_add, iv_sub, iv_mul, iv_neg, iv_ltT, iv_ltF, iv_leT, iv_leF, iv_eqT, iv_eqF, iv_div, iv_mod, ↓bnI_s, ↓bnV_s, ↓bnJ_s, ↓bnR_s, rt_e, rt_0, rt_bz, sv_s, sv_o, ur_s, ur_e, ur_o, bz_T, bz_F, nat_eqF, Nat.reduceAdd, v8], Or.inr (Or.inr (Or.inr ?_))⟩
      · rw [if_pos (Or.inr a1), a1]
        have e12 : p + 1 + 1 = p + 2 := by omega
        (rw [q_M_nextToken_272]; simp (disch := first | decide | omega | (simp (disch := first | decide | omega) only [sv_s, sv_o, ur_s, ur_e, ur_o]; omega)) only [↓reduceIte, iv_add, iv_sub, iv_mul, iv_neg, iv_ltT, iv_ltF, iv_leT, iv_leF, iv_eqT, iv_eqF, iv_div, iv_mod, ↓bnI_s, ↓bnV_s, ↓bnJ_s, ↓bnR_s, rt_e, rt_0, rt_bz, sv_s, sv_o, ur_s, ur_e, ur_o, bz_T, bz_F, nat_eqF, Nat.reduceAdd, ↓gI_435_7 F, ↓pI_435_9 F, ↓pI_435_7 F, il_0, il_1, il_4, il_5, il_7, il_9, il_11, il_60, il_61, il_272, v7, d1, e12])
      · have e9 : sv (sv V1 435 9 5) 435 7 (p + 2) 435 9 = 5 := by simp (disch := first | decide | omega | (simp (disch := first | decide | omega) only [sv_s, sv_o, ur_s, ur_e, ur_o]; omega)) only [↓reduceIte, iv_add, iv_sub, iv_mul, iv_neg, iv_ltT, iv_ltF, iv_leT, iv_leF, iv_eqT, iv_eqF, iv_div, iv_mod, ↓bnI_s, ↓bnV_s, ↓bnJ_s, ↓bnR_s, rt_e, rt_0, rt_bz, sv_s, sv_o, ur_s, ur_e, ur_o, bz_T, bz_F, nat_eqF, Nat.reduceAdd]
        rw [e9, a3]; unfold sgT; omega
    · refine ⟨V1, K, plain (fun w => a1 ⟨w.1, d61.mp w.2⟩), f1, v7.trans a3.symm, v8, Or.inr (Or.inr (Or.inr ?_))⟩
      rw [v9, a2, ht]
      rcases sx with ⟨x1, y1⟩ | ⟨x1, y1⟩
      · rw [if_pos x1]; exact sgT_sg y1 (by omega)
      · rw [if_neg (by omega)]; exact sgT_no y1
end
