/-! THE READING, the model's small steps -/
def Tt (k t : Int) : Prop := (k = 40 ∧ t = 0) ∨ (k = 38 ∧ t = 1) ∨ (((0 ≤ k ∧ k ≤ 24) ∨ k = 39) ∧ t = 2) ∨ sgT k t
theorem MT.tt {U K : Vm} {b : Int → Int} {p k e v : Int} (h : MT U K b p k e v) : Tt k (U 435 9) := by
  obtain ⟨_, _, h⟩ := h
  rcases h with ⟨h1, h2⟩ | ⟨h1, h2, h3⟩ | ⟨h1, h2, h3⟩ | h1
  · exact Or.inl ⟨h1, h2⟩
  · exact Or.inr (Or.inl ⟨h1, h2⟩)
  · exact Or.inr (Or.inr (Or.inl ⟨by have := h2.rg; omega, h1⟩))
  · exact Or.inr (Or.inr (Or.inr h1))
theorem Tt.rg {k t : Int} (h : Tt k t) : (0 ≤ k ∧ k ≤ 40) ∧ (0 ≤ t ∧ t ≤ 62) := by unfold Tt sgT at h; omega
theorem y_w2 {x y : Int} {h : Mem} (hx : 0 ≤ x ∧ x < 256) (hy : 0 ≤ y ∧ y < 256) : cA m_M_w2 [.int (iv x), .int (iv y)] h = some (.long (jv (256 * x + y)), h) := by
  have ex := iv_long (a := x) (by omega)
  have ey := iv_long (a := y) (by omega)
  have s := jshl (a := x) (c := y) (by omega) hy
  rw [q_M_w2, ex, ey, s]
theorem y_w3 {x y u : Int} {h : Mem} (hx : 0 ≤ x ∧ x < 256) (hy : 0 ≤ y ∧ y < 256) (hu : 0 ≤ u ∧ u < 256) : cA m_M_w3 [.int (iv x), .int (iv y), .int (iv u)] h = some (.long (jv (256 * (256 * x + y) + u)), h) := by
  have s := jshl (a := 256 * x + y) (c := u) (by omega) hu
  rw [q_M_w3, y_w2 hx hy, bnJ_s, iv_long (by omega), s]
theorem y_w4 {x y u v : Int} {h : Mem} (hx : 0 ≤ x ∧ x < 256) (hy : 0 ≤ y ∧ y < 256) (hu : 0 ≤ u ∧ u < 256) (hv : 0 ≤ v ∧ v < 256) : cA m_M_w4 [.int (iv x), .int (iv y), .int (iv u), .int (iv v)] h = some (.long (jv (256 * (256 * (256 * x + y) + u) + v)), h) := by
  have s := jshl (a := 256 * (256 * x + y) + u) (c := v) (by omega) hv
  rw [q_M_w4, y_w3 hx hy hu, bnJ_s, iv_long (by omega), s]
theorem y_w5 {x y u v w : Int} {h : Mem} (hx : 0 ≤ x ∧ x < 256) (hy : 0 ≤ y ∧ y < 256) (hu : 0 ≤ u ∧ u < 256) (hv : 0 ≤ v ∧ v < 256) (hw : 0 ≤ w ∧ w < 256) : cA m_M_w5 [.int (iv x), .int (iv y), .int (iv u), .int (iv v), .int (iv w)] h = some (.long (jv (256 * (256 * (256 * (256 * x + y) + u) + v) + w)), h) := by
  have s := jshl (a := 256 * (256 * (256 * x + y) + u) + v) (c := w) (by omega) hw
  rw [q_M_w5, y_w4 hx hy hu hv, bnJ_s, iv_long (by omega), s]
theorem y_w6 {x y u v w r : Int} {h : Mem} (hx : 0 ≤ x ∧ x < 256) (hy : 0 ≤ y ∧ y < 256) (hu : 0 ≤ u ∧ u < 256) (hv : 0 ≤ v ∧ v < 256) (hw : 0 ≤ w ∧ w < 256) (hr : 0 ≤ r ∧ r < 256) : cA m_M_w6 [.int (iv x), .int (iv y), .int (iv u), .int (iv v), .int (iv w), .int (iv r)] h = some (.long (jv (256 * (256 * (256 * (256 * (256 * x + y) + u) + v) + w) + r)), h) := by
  have s := jshl (a := 256 * (256 * (256 * (256 * x + y) + u) + v) + w) (c := r) (by omega) hr
  rw [q_M_w6, y_w5 hx hy hu hv hw, bnJ_s, iv_long (by omega), s]
/-- the number that a word packs to -/
def wn (i : Nat) : Int := wv (WL.getD i [])
theorem lw_1 {h : Mem} : cA m_M_w5 [.int (iv 98), .int (iv 101), .int (iv 97), .int (iv 114), .int (iv 115)] h = some (.long (jv (wn 1)), h) := y_w5 (by decide) (by decide) (by decide) (by decide) (by decide)
theorem lw_2 {h : Mem} : cA m_M_w3 [.int (iv 107), .int (iv 105), .int (iv 110)] h = some (.long (jv (wn 2)), h) := y_w3 (by decide) (by decide) (by decide)
theorem lw_3 {h : Mem} : cA m_M_w4 [.int (iv 107), .int (iv 101), .int (iv 112), .int (iv 116)] h = some (.long (jv (wn 3)), h) := y_w4 (by decide) (by decide) (by decide) (by decide)
theorem lw_4 {h : Mem} : cA m_M_w5 [.int (iv 114), .int (iv 101), .int (iv 97), .int (iv 99), .int (iv 104)] h = some (.long (jv (wn 4)), h) := y_w5 (by decide) (by decide) (by decide) (by decide) (by decide)
theorem lw_5 {h : Mem} : cA m_M_w4 [.int (iv 100), .int (iv 111), .int (iv 119), .int (iv 110)] h = some (.long (jv (wn 5)), h) := y_w4 (by decide) (by decide) (by decide) (by decide)
theorem lw_6 {h : Mem} : cA m_M_w2 [.int (iv 98), .int (iv 121)] h = some (.long (jv (wn 6)), h) := y_w2 (by decide) (by decide)
theorem lw_7 {h : Mem} : cA m_M_w5 [.int (iv 115), .int (iv 116), .int (iv 114), .int (iv 97), .int (iv 112)] h = some (.long (jv (wn 7)), h) := y_w5 (by decide) (by decide) (by decide) (by decide) (by decide)
theorem lw_8 {h : Mem} : cA m_M_w4 [.int (iv 115), .int (iv 119), .int (iv 97), .int (iv 112)] h = some (.long (jv (wn 8)), h) := y_w4 (by decide) (by decide) (by decide) (by decide)
theorem lw_9 {h : Mem} : cA m_M_w4 [.int (iv 119), .int (iv 105), .int (iv 116), .int (iv 104)] h = some (.long (jv (wn 9)), h) := y_w4 (by decide) (by decide) (by decide) (by decide)
theorem lw_10 {h : Mem} : cA m_M_w6 [.int (iv 100), .int (iv 105), .int (iv 110), .int (iv 110), .int (iv 101), .int (iv 114)] h = some (.long (jv (wn 10)), h) := y_w6 (by decide) (by decide) (by decide) (by decide) (by decide) (by decide)
theorem lw_11 {h : Mem} : cA m_M_w3 [.int (iv 119), .int (iv 104), .int (iv 111)] h = some (.long (jv (wn 11)), h) := y_w3 (by decide) (by decide) (by decide)
theorem lw_12 {h : Mem} : cA m_M_w6 [.int (iv 116), .int (iv 101), .int (iv 109), .int (iv 112), .int (iv 101), .int (iv 114)] h = some (.long (jv (wn 12)), h) := y_w6 (by decide) (by decide) (by decide) (by decide) (by decide) (by decide)
theorem lw_13 {h : Mem} : cA m_M_w4 [.int (iv 115), .int (iv 101), .int (iv 97), .int (iv 116)] h = some (.long (jv (wn 13)), h) := y_w4 (by decide) (by decide) (by decide) (by decide)
theorem lw_14 {h : Mem} : cA m_M_w6 [.int (iv 98), .int (iv 101), .int (iv 115), .int (iv 105), .int (iv 100), .int (iv 101)] h = some (.long (jv (wn 14)), h) := y_w6 (by decide) (by decide) (by decide) (by decide) (by decide) (by decide)
theorem lw_15 {h : Mem} : cA m_M_w5 [.int (iv 108), .int (iv 111), .int (iv 111), .int (iv 115), .int (iv 101)] h = some (.long (jv (wn 15)), h) := y_w5 (by decide) (by decide) (by decide) (by decide) (by decide)
theorem lw_16 {h : Mem} : cA m_M_w6 [.int (iv 97), .int (iv 99), .int (iv 114), .int (iv 111), .int (iv 115), .int (iv 115)] h = some (.long (jv (wn 16)), h) := y_w6 (by decide) (by decide) (by decide) (by decide) (by decide) (by decide)
theorem lw_17 {h : Mem} : cA m_M_w6 [.int (iv 113), .int (iv 117), .int (iv 105), .int (iv 118), .int (iv 101), .int (iv 114)] h = some (.long (jv (wn 17)), h) := y_w6 (by decide) (by decide) (by decide) (by decide) (by decide) (by decide)
theorem lw_18 {h : Mem} : cA m_M_w2 [.int (iv 105), .int (iv 102)] h = some (.long (jv (wn 18)), h) := y_w2 (by decide) (by decide)
theorem lw_19 {h : Mem} : cA m_M_w4 [.int (iv 116), .int (iv 104), .int (iv 101), .int (iv 110)] h = some (.long (jv (wn 19)), h) := y_w4 (by decide) (by decide) (by decide) (by decide)
theorem lw_20 {h : Mem} : cA m_M_w4 [.int (iv 101), .int (iv 108), .int (iv 115), .int (iv 101)] h = some (.long (jv (wn 20)), h) := y_w4 (by decide) (by decide) (by decide) (by decide)
theorem lw_21 {h : Mem} : cA m_M_w3 [.int (iv 101), .int (iv 110), .int (iv 100)] h = some (.long (jv (wn 21)), h) := y_w3 (by decide) (by decide) (by decide)
theorem lw_22 {h : Mem} : cA m_M_w2 [.int (iv 111), .int (iv 114)] h = some (.long (jv (wn 22)), h) := y_w2 (by decide) (by decide)
theorem lw_23 {h : Mem} : cA m_M_w3 [.int (iv 97), .int (iv 110), .int (iv 100)] h = some (.long (jv (wn 23)), h) := y_w3 (by decide) (by decide) (by decide)
theorem lw_24 {h : Mem} : cA m_M_w3 [.int (iv 110), .int (iv 111), .int (iv 116)] h = some (.long (jv (wn 24)), h) := y_w3 (by decide) (by decide) (by decide)
theorem wn_rg : ∀ i, i < 25 → 0 < i → 0 ≤ wn i ∧ wn i < 2000000000000000000 := by decide
section
variable {U K : Vm} {z : Zz} {b : Int → Int} {p k e v : Int}
theorem y_isWord (F : Fix z) (T : MT U K b p k e v) {i : Nat} (h0 : 0 < i) (hi : i < 25) : cA m_M_isWord [.ref 435, .long (jv (wn i))] (em U K z) = some (.int (iv (bz (k = i))), em U K z) := by
  obtain ⟨_, _, h⟩ := T
  have wr := wn_rg i hi h0
  rcases h with ⟨h1, h2⟩ | ⟨h1, h2, h3⟩ | ⟨h1, h2, h3, h4, h5⟩ | h1
  · rw [bz_F (by omega)]; simp (disch := first | decide | omega | (simp (disch := first | decide | omega) only [sv_s, sv_o, ur_s, ur_e, ur_o]; omega)) only [↓reduceIte, iv_add, iv_sub, iv_mul, iv_neg, iv_ltT, iv_ltF, iv_leT, iv_leF, iv_eqT, iv_eqF, iv_div, iv_mod, ↓bnI_s, ↓bnV_s, ↓bnJ_s, ↓bnR_s, rt_e, rt_0, rt_bz, sv_s, sv_o, ur_s, ur_e, ur_o, bz_T, bz_F, nat_eqF, Nat.reduceAdd, ↓q_M_isWord, ↓gI_435_9 F, ↓gJ_435_11 F, ↓gd_435 F, il_0, il_1, il_2, il_9, il_11, il_27, h2]
  · rw [bz_F (by omega)]; simp (disch := first | decide | omega | (simp (disch := first | decide | omega) only [sv_s, sv_o, ur_s, ur_e, ur_o]; omega)) only [↓reduceIte, iv_add, iv_sub, iv_mul, iv_neg, iv_ltT, iv_ltF, iv_leT, iv_leF, iv_eqT, iv_eqF, iv_div, iv_mod, ↓bnI_s, ↓bnV_s, ↓bnJ_s, ↓bnR_s, rt_e, rt_0, rt_bz, sv_s, sv_o, ur_s, ur_e, ur_o, bz_T, bz_F, nat_eqF, Nat.reduceAdd, ↓q_M_isWord, ↓gI_435_9 F, ↓gJ_435_11 F, ↓gd_435 F, il_0, il_1, il_2, il_9, il_11, il_27, h2]
  · have r := wv_rg h3
    have is := wv_is h2 h3 h0 hi
    have wi : wn i = wv (WL.getD i []) := rfl
    rw [← wi] at is
    rw [← h4] at r is
    by_cases q : k = i
    · rw [bz_T q]
      have c := jc_eq (is.mpr q)
      simp (disch := first | decide | omega | (simp (disch := first | decide | omega) only [sv_s, sv_o, ur_s, ur_e, ur_o]; omega)) only [↓reduceIte, iv_add, iv_sub, iv_mul, iv_neg, iv_ltT, iv_ltF, iv_leT, iv_leF, iv_eqT, iv_eqF, iv_div, iv_mod, ↓bnI_s, ↓bnV_s, ↓bnJ_s, ↓bnR_s, rt_e, rt_0, rt_bz, sv_s, sv_o, ur_s, ur_e, ur_o, bz_T, bz_F, nat_eqF, Nat.reduceAdd, ↓q_M_isWord, ↓gI_435_9 F, ↓gJ_435_11 F, ↓gd_435 F, il_0, il_1, il_2, il_9, il_11, il_27, h1, c]
    · rw [bz_F q]
      have ne : K 435 11 ≠ wn i := fun x => q (is.mp x)
      by_cases lt : K 435 11 < wn i
      · have c := jc_lt (a := K 435 11) (b := wn i) (by omega)
        simp (disch := first | decide | omega | (simp (disch := first | decide | omega) only [sv_s, sv_o, ur_s, ur_e, ur_o]; omega)) only [↓reduceIte, iv_add, iv_sub, iv_mul, iv_neg, iv_ltT, iv_ltF, iv_leT, iv_leF, iv_eqT, iv_eqF, iv_div, iv_mod, ↓bnI_s, ↓bnV_s, ↓bnJ_s, ↓bnR_s, rt_e, rt_0, rt_bz, sv_s, sv_o, ur_s, ur_e, ur_o, bz_T, bz_F, nat_eqF, Nat.reduceAdd, ↓q_M_isWord, ↓gI_435_9 F, ↓gJ_435_11 F, ↓gd_435 F, il_0, il_1, il_2, il_9, il_11, il_27, h1, c]
      · have c := jc_gt (a := K 435 11) (b := wn i) (by omega)
        simp (disch := first | decide | omega | (simp (disch := first | decide | omega) only [sv_s, sv_o, ur_s, ur_e, ur_o]; omega)) only [↓reduceIte, iv_add, iv_sub, iv_mul, iv_neg, iv_ltT, iv_ltF, iv_leT, iv_leF, iv_eqT, iv_eqF, iv_div, iv_mod, ↓bnI_s, ↓bnV_s, ↓bnJ_s, ↓bnR_s, rt_e, rt_0, rt_bz, sv_s, sv_o, ur_s, ur_e, ur_o, bz_T, bz_F, nat_eqF, Nat.reduceAdd, ↓q_M_isWord, ↓gI_435_9 F, ↓gJ_435_11 F, ↓gd_435 F, il_0, il_1, il_2, il_9, il_11, il_27, h1, c]
  · have nk : ¬ k = i := by unfold sgT at h1; omega
    have t2 : U 435 9 < 2 ∨ 2 < U 435 9 := by unfold sgT at h1; omega
    rw [bz_F nk]
    have r := wn_rg i hi h0
    generalize ht : U 435 9 = t at *
    have tr : 0 ≤ t ∧ t ≤ 62 := by unfold sgT at h1; omega
    clear h1
    simp (disch := first | decide | omega | (simp (disch := first | decide | omega) only [sv_s, sv_o, ur_s, ur_e, ur_o]; omega)) only [↓reduceIte, iv_add, iv_sub, iv_mul, iv_neg, iv_ltT, iv_ltF, iv_leT, iv_leF, iv_eqT, iv_eqF, iv_div, iv_mod, ↓bnI_s, ↓bnV_s, ↓bnJ_s, ↓bnR_s, rt_e, rt_0, rt_bz, sv_s, sv_o, ur_s, ur_e, ur_o, bz_T, bz_F, nat_eqF, Nat.reduceAdd, ↓q_M_isWord, ↓gI_435_9 F, ↓gJ_435_11 F, ↓gd_435 F, il_0, il_1, il_2, il_9, il_11, il_27, ht]
theorem MT.lg (T : MT U K b p k e v) (t2 : U 435 9 = 2) {i : Nat} (h0 : 0 < i) (hi : i < 25) : (lg_cmp (jv (K 435 11)) (jv (wn i)) = iv 0) = (k = (i : Int)) := by
  obtain ⟨_, _, h⟩ := T
  have wr := wn_rg i hi h0
  rcases h with ⟨h1, h2⟩ | ⟨h1, h2, h3⟩ | ⟨h1, h2, h3, h4, h5⟩ | h1
  · omega
  · omega
  · have r := wv_rg h3
    have is := wv_is h2 h3 h0 hi
    have wi : wn i = wv (WL.getD i []) := rfl
    rw [← wi] at is
    rw [← h4] at r is
    by_cases q : k = i
    · rw [jc_eq (is.mpr q)]
      exact propext ⟨fun _ => q, fun _ => rfl⟩
    · have ne : K 435 11 ≠ wn i := fun x => q (is.mp x)
      rw [eq_false q]
      by_cases lt : K 435 11 < wn i
      · rw [jc_lt (by omega)]; exact iv_eqF (by omega)
      · rw [jc_gt (by omega)]; exact iv_eqF (by omega)
  · unfold sgT at h1; omega
/-- the name's number, as the model counts -/
def nmO (k : Int) : Int := if k = 10 then 0 else if k = 11 then 1 else if k = 12 then 2 else if k = 3 then 3 else if k = 13 then 4 else if k = 14 then 5 else if k = 15 then 6 else -1
theorem y_nameOf (F : Fix z) (T : MT U K b p k e v) : cA m_M_nameOf [.ref 435] (em U K z) = some (.int (iv (nmO k)), em U K z) := by
  have tt := T.tt
  have kr := tt.rg
  by_cases t2 : U 435 9 = 2
  · have e10 := T.lg t2 (i := 10) (by decide) (by decide)
    have e11 := T.lg t2 (i := 11) (by decide) (by decide)
    have e12 := T.lg t2 (i := 12) (by decide) (by decide)
    have e3 := T.lg t2 (i := 3) (by decide) (by decide)
    have e13 := T.lg t2 (i := 13) (by decide) (by decide)
    have e14 := T.lg t2 (i := 14) (by decide) (by decide)
    have e15 := T.lg t2 (i := 15) (by decide) (by decide)
    unfold nmO
    by_cases k10 : k = 10
    · rw [if_pos k10]; replace e10 := e10.trans (eq_true (by omega))
      simp (disch := first | decide | omega | (simp (disch := first | decide | omega) only [sv_s, sv_o, ur_s, ur_e, ur_o]; omega)) only [↓reduceIte, iv_add, iv_sub, iv_mul, iv_neg, iv_ltT, iv_ltF, iv_leT, iv_leF, iv_eqT, iv_eqF, iv_div, iv_mod, ↓bnI_s, ↓bnV_s, ↓bnJ_s, ↓bnR_s, rt_e, rt_0, rt_bz, sv_s, sv_o, ur_s, ur_e, ur_o, bz_T, bz_F, nat_eqF, Nat.reduceAdd, ↓q_M_nameOf, ↓gI_435_9 F, ↓gJ_435_11 F, ↓gd_435 F, il_0, il_1, il_2, il_3, il_4, il_5, il_6, il_9, il_11, il_27, il_97, il_98, il_100, il_101, il_104, il_105, il_107, il_108, il_109, il_110, il_111, il_112, il_114, il_115, il_116, il_119, t2, lw_10, e10]
    · rw [if_neg k10]; replace e10 := e10.trans (eq_false (by omega))
      by_cases k11 : k = 11
      · rw [if_pos k11]; replace e11 := e11.trans (eq_true (by omega))
        simp (disch := first | decide | omega | (simp (disch := first | decide | omega) only [sv_s, sv_o, ur_s, ur_e, ur_o]; omega)) only [↓reduceIte, iv_add, iv_sub, iv_mul, iv_neg, iv_ltT, iv_ltF, iv_leT, iv_leF, iv_eqT, iv_eqF, iv_div, iv_mod, ↓bnI_s, ↓bnV_s, ↓bnJ_s, ↓bnR_s, rt_e, rt_0, rt_bz, sv_s, sv_o, ur_s, ur_e, ur_o, bz_T, bz_F, nat_eqF, Nat.reduceAdd, ↓q_M_nameOf, ↓gI_435_9 F, ↓gJ_435_11 F, ↓gd_435 F, il_0, il_1, il_2, il_3, il_4, il_5, il_6, il_9, il_11, il_27, il_97, il_98, il_100, il_101, il_104, il_105, il_107, il_108, il_109, il_110, il_111, il_112, il_114, il_115, il_116, il_119, t2, lw_10, e10, lw_11, e11]
      · rw [if_neg k11]; replace e11 := e11.trans (eq_false (by omega))
        by_cases k12 : k = 12
        · rw [if_pos k12]; replace e12 := e12.trans (eq_true (by omega))
          simp (disch := first | decide | omega | (simp (disch := first | decide | omega) only [sv_s, sv_o, ur_s, ur_e, ur_o]; omega)) only [↓reduceIte, iv_add, iv_sub, iv_mul, iv_neg, iv_ltT, iv_ltF, iv_leT, iv_leF, iv_eqT, iv_eqF, iv_div, iv_mod, ↓bnI_s, ↓bnV_s, ↓bnJ_s, ↓bnR_s, rt_e, rt_0, rt_bz, sv_s, sv_o, ur_s, ur_e, ur_o, bz_T, bz_F, nat_eqF, Nat.reduceAdd, ↓q_M_nameOf, ↓gI_435_9 F, ↓gJ_435_11 F, ↓gd_435 F, il_0, il_1, il_2, il_3, il_4, il_5, il_6, il_9, il_11, il_27, il_97, il_98, il_100, il_101, il_104, il_105, il_107, il_108, il_109, il_110, il_111, il_112, il_114, il_115, il_116, il_119, t2, lw_10, e10, lw_11, e11, lw_12, e12]
        · rw [if_neg k12]; replace e12 := e12.trans (eq_false (by omega))
          by_cases k3 : k = 3
          · rw [if_pos k3]; replace e3 := e3.trans (eq_true (by omega))
            simp (disch := first | decide | omega | (simp (disch := first | decide | omega) only [sv_s, sv_o, ur_s, ur_e, ur_o]; omega)) only [↓reduceIte, iv_add, iv_sub, iv_mul, iv_neg, iv_ltT, iv_ltF, iv_leT, iv_leF, iv_eqT, iv_eqF, iv_div, iv_mod, ↓bnI_s, ↓bnV_s, ↓bnJ_s, ↓bnR_s, rt_e, rt_0, rt_bz, sv_s, sv_o, ur_s, ur_e, ur_o, bz_T, bz_F, nat_eqF, Nat.reduceAdd, ↓q_M_nameOf, ↓gI_435_9 F, ↓gJ_435_11 F, ↓gd_435 F, il_0, il_1, il_2, il_3, il_4, il_5, il_6, il_9, il_11, il_27, il_97, il_98, il_100, il_101, il_104, il_105, il_107, il_108, il_109, il_110, il_111, il_112, il_114, il_115, il_116, il_119, t2, lw_10, e10, lw_11, e11, lw_12, e12, lw_3, e3]
          · rw [if_neg k3]; replace e3 := e3.trans (eq_false (by omega))
            by_cases k13 : k = 13
            · rw [if_pos k13]; replace e13 := e13.trans (eq_true (by omega))
              simp (disch := first | decide | omega | (simp (disch := first | decide | omega) only [sv_s, sv_o, ur_s, ur_e, ur_o]; omega)) only [↓reduceIte, iv_add, iv_sub, iv_mul, iv_neg, iv_ltT, iv_ltF, iv_leT, iv_leF, iv_eqT, iv_eqF, iv_div, iv_mod, ↓bnI_s, ↓bnV_s, ↓bnJ_s, ↓bnR_s, rt_e, rt_0, rt_bz, sv_s, sv_o, ur_s, ur_e, ur_o, bz_T, bz_F, nat_eqF, Nat.reduceAdd, ↓q_M_nameOf, ↓gI_435_9 F, ↓gJ_435_11 F, ↓gd_435 F, il_0, il_1, il_2, il_3, il_4, il_5, il_6, il_9, il_11, il_27, il_97, il_98, il_100, il_101, il_104, il_105, il_107, il_108, il_109, il_110, il_111, il_112, il_114, il_115, il_116, il_119, t2, lw_10, e10, lw_11, e11, lw_12, e12, lw_3, e3, lw_13, e13]
            · rw [if_neg k13]; replace e13 := e13.trans (eq_false (by omega))
              by_cases k14 : k = 14
              · rw [if_pos k14]; replace e14 := e14.trans (eq_true (by omega))
                simp (disch := first | decide | omega | (simp (disch := first | decide | omega) only [sv_s, sv_o, ur_s, ur_e, ur_o]; omega)) only [↓reduceIte, iv_add, iv_sub, iv_mul, iv_neg, iv_ltT, iv_ltF, iv_leT, iv_leF, iv_eqT, iv_eqF, iv_div, iv_mod, ↓bnI_s, ↓bnV_s, ↓bnJ_s, ↓bnR_s, rt_e, rt_0, rt_bz, sv_s, sv_o, ur_s, ur_e, ur_o, bz_T, bz_F, nat_eqF, Nat.reduceAdd, ↓q_M_nameOf, ↓gI_435_9 F, ↓gJ_435_11 F, ↓gd_435 F, il_0, il_1, il_2, il_3, il_4, il_5, il_6, il_9, il_11, il_27, il_97, il_98, il_100, il_101, il_104, il_105, il_107, il_108, il_109, il_110, il_111, il_112, il_114, il_115, il_116, il_119, t2, lw_10, e10, lw_11, e11, lw_12, e12, lw_3, e3, lw_13, e13, lw_14, e14]
              · rw [if_neg k14]; replace e14 := e14.trans (eq_false (by omega))
                by_cases k15 : k = 15
                · rw [if_pos k15]; replace e15 := e15.trans (eq_true (by omega))
                  simp (disch := first | decide | omega | (simp (disch := first | decide | omega) only [sv_s, sv_o, ur_s, ur_e, ur_o]; omega)) only [↓reduceIte, iv_add, iv_sub, iv_mul, iv_neg, iv_ltT, iv_ltF, iv_leT, iv_leF, iv_eqT, iv_eqF, iv_div, iv_mod, ↓bnI_s, ↓bnV_s, ↓bnJ_s, ↓bnR_s, rt_e, rt_0, rt_bz, sv_s, sv_o, ur_s, ur_e, ur_o, bz_T, bz_F, nat_eqF, Nat.reduceAdd, ↓q_M_nameOf, ↓gI_435_9 F, ↓gJ_435_11 F, ↓gd_435 F, il_0, il_1, il_2, il_3, il_4, il_5, il_6, il_9, il_11, il_27, il_97, il_98, il_100, il_101, il_104, il_105, il_107, il_108, il_109, il_110, il_111, il_112, il_114, il_115, il_116, il_119, t2, lw_10, e10, lw_11, e11, lw_12, e12, lw_3, e3, lw_13, e13, lw_14, e14, lw_15, e15]
                · rw [if_neg k15]; replace e15 := e15.trans (eq_false (by omega))
                  simp (disch := first | decide | omega | (simp (disch := first | decide | omega) only [sv_s, sv_o, ur_s, ur_e, ur_o]; omega)) only [↓reduceIte, iv_add, iv_sub, iv_mul, iv_neg, iv_ltT, iv_ltF, iv_leT, iv_leF, iv_eqT, iv_eqF, iv_div, iv_mod, ↓bnI_s, ↓bnV_s, ↓bnJ_s, ↓bnR_s, rt_e, rt_0, rt_bz, sv_s, sv_o, ur_s, ur_e, ur_o, bz_T, bz_F, nat_eqF, Nat.reduceAdd, ↓q_M_nameOf, ↓gI_435_9 F, ↓gJ_435_11 F, ↓gd_435 F, il_0, il_1, il_2, il_3, il_4, il_5, il_6, il_9, il_11, il_27, il_97, il_98, il_100, il_101, il_104, il_105, il_107, il_108, il_109, il_110, il_111, il_112, il_114, il_115, il_116, il_119, t2, lw_10, e10, lw_11, e11, lw_12, e12, lw_3, e3, lw_13, e13, lw_14, e14, lw_15, e15]
  · have no : nmO k = -1 := by
      have : ¬ (0 ≤ k ∧ k ≤ 24) := by unfold Tt sgT at tt; omega
      unfold nmO
      rw [if_neg (by omega), if_neg (by omega), if_neg (by omega), if_neg (by omega), if_neg (by omega), if_neg (by omega), if_neg (by omega)]
    rw [no]
    have t2' : U 435 9 < 2 ∨ 2 < U 435 9 := by omega
    generalize ht : U 435 9 = t at *
    clear tt
    simp (disch := first | decide | omega | (simp (disch := first | decide | omega) only [sv_s, sv_o, ur_s, ur_e, ur_o]; omega)) only [↓reduceIte, iv_add, iv_sub, iv_mul, iv_neg, iv_ltT, iv_ltF, iv_leT, iv_leF, iv_eqT, iv_eqF, iv_div, iv_mod, ↓bnI_s, ↓bnV_s, ↓bnJ_s, ↓bnR_s, rt_e, rt_0, rt_bz, sv_s, sv_o, ur_s, ur_e, ur_o, bz_T, bz_F, nat_eqF, Nat.reduceAdd, ↓q_M_nameOf, ↓gI_435_9 F, ↓gJ_435_11 F, ↓gd_435 F, il_0, il_1, il_2, il_3, il_4, il_5, il_6, il_9, il_11, il_27, il_97, il_98, il_100, il_101, il_104, il_105, il_107, il_108, il_109, il_110, il_111, il_112, il_114, il_115, il_116, il_119, ht]
/-- a comparison's number, as the model counts -/
def cmO (k : Int) : Int := if k = 25 then 10 else if k = 36 then 11 else if k = 26 then 12 else if k = 37 then 13 else if k = 27 then 14 else if k = 28 then 15 else -1
theorem y_compareOf (F : Fix z) (T : MT U K b p k e v) : cA m_M_compareOf [.ref 435] (em U K z) = some (.int (iv (cmO k)), em U K z) := by
  have tt := T.tt
  generalize ht : U 435 9 = t at tt
  have x3 : t = 0 ∨ t = 1 ∨ t = 2 ∨ t = 3 ∨ t = 58 ∨ (4 ≤ t ∧ t ≤ 62) := by have := tt.rg; omega
  unfold Tt sgT at tt
  rcases tt with ⟨rfl, rfl⟩ | ⟨rfl, rfl⟩ | ⟨h1, rfl⟩ | ⟨rfl, rfl⟩ | ⟨rfl, rfl⟩ | ⟨rfl, rfl⟩ | ⟨rfl, rfl⟩ | ⟨rfl, rfl⟩ | ⟨rfl, rfl⟩ | ⟨rfl, rfl⟩ | ⟨rfl, rfl⟩ | ⟨rfl, rfl⟩ | ⟨rfl, rfl⟩ | ⟨rfl, rfl⟩ | ⟨rfl, rfl⟩ | ⟨rfl, rfl⟩ | ⟨rfl, rfl | rfl⟩
  case inr.inr.inl =>
    have no : cmO k = -1 := by
      unfold cmO
      rw [if_neg (by omega), if_neg (by omega), if_neg (by omega), if_neg (by omega), if_neg (by omega), if_neg (by omega)]
    rw [no]
    simp (disch := first | decide | omega | (simp (disch := first | decide | omega) only [sv_s, sv_o, ur_s, ur_e, ur_o]; omega)) only [↓reduceIte, iv_add, iv_sub, iv_mul, iv_neg, iv_ltT, iv_ltF, iv_leT, iv_leF, iv_eqT, iv_eqF, iv_div, iv_mod, ↓bnI_s, ↓bnV_s, ↓bnJ_s, ↓bnR_s, rt_e, rt_0, rt_bz, sv_s, sv_o, ur_s, ur_e, ur_o, bz_T, bz_F, nat_eqF, Nat.reduceAdd, ↓q_M_compareOf, ↓gI_435_9 F, ↓gd_435 F, il_0, il_1, il_4, il_5, il_9, il_10, il_11, il_12, il_13, il_14, il_15, il_27, il_35, il_60, il_61, il_62, ht]
  all_goals
    simp (disch := first | decide | omega | (simp (disch := first | decide | omega) only [sv_s, sv_o, ur_s, ur_e, ur_o]; omega)) only [↓reduceIte, iv_add, iv_sub, iv_mul, iv_neg, iv_ltT, iv_ltF, iv_leT, iv_leF, iv_eqT, iv_eqF, iv_div, iv_mod, ↓bnI_s, ↓bnV_s, ↓bnJ_s, ↓bnR_s, rt_e, rt_0, rt_bz, sv_s, sv_o, ur_s, ur_e, ur_o, bz_T, bz_F, nat_eqF, Nat.reduceAdd, ↓q_M_compareOf, ↓gI_435_9 F, ↓gd_435 F, il_0, il_1, il_4, il_5, il_9, il_10, il_11, il_12, il_13, il_14, il_15, il_27, il_35, il_60, il_61, il_62, ht]
    rfl
theorem y_isOf (F : Fix z) {x : Int} (hx : 0 ≤ x ∧ x ≤ 6) (hs : 0 ≤ U 435 14 ∧ U 435 14 ≤ 1) : cA m_M_isOf [.ref 435, .int (iv x)] (em U K z) = some (.int (iv (bz (¬ (x = 5 ∧ U 435 14 = 1) ∧ ¬ (x = 6 ∧ U 435 14 = 0)))), em U K z) := by
  generalize hs0 : U 435 14 = s at *
  have s01 : s = 0 ∨ s = 1 := by omega
  by_cases h5 : x = 5
  · subst h5
    rcases s01 with rfl | rfl
    · rw [bz_T (by omega)]; simp (disch := first | decide | omega | (simp (disch := first | decide | omega) only [sv_s, sv_o, ur_s, ur_e, ur_o]; omega)) only [↓reduceIte, iv_add, iv_sub, iv_mul, iv_neg, iv_ltT, iv_ltF, iv_leT, iv_leF, iv_eqT, iv_eqF, iv_div, iv_mod, ↓bnI_s, ↓bnV_s, ↓bnJ_s, ↓bnR_s, rt_e, rt_0, rt_bz, sv_s, sv_o, ur_s, ur_e, ur_o, bz_T, bz_F, nat_eqF, Nat.reduceAdd, ↓q_M_isOf, ↓gI_435_14 F, ↓gd_435 F, il_0, il_1, il_5, il_11, il_14, il_27, hs0]
    · rw [bz_F (by omega)]; simp (disch := first | decide | omega | (simp (disch := first | decide | omega) only [sv_s, sv_o, ur_s, ur_e, ur_o]; omega)) only [↓reduceIte, iv_add, iv_sub, iv_mul, iv_neg, iv_ltT, iv_ltF, iv_leT, iv_leF, iv_eqT, iv_eqF, iv_div, iv_mod, ↓bnI_s, ↓bnV_s, ↓bnJ_s, ↓bnR_s, rt_e, rt_0, rt_bz, sv_s, sv_o, ur_s, ur_e, ur_o, bz_T, bz_F, nat_eqF, Nat.reduceAdd, ↓q_M_isOf, ↓gI_435_14 F, ↓gd_435 F, il_0, il_1, il_5, il_11, il_14, il_27, hs0]
  · by_cases h6 : x = 6
    · subst h6
      rcases s01 with rfl | rfl
      · rw [bz_F (by omega)]; simp (disch := first | decide | omega | (simp (disch := first | decide | omega) only [sv_s, sv_o, ur_s, ur_e, ur_o]; omega)) only [↓reduceIte, iv_add, iv_sub, iv_mul, iv_neg, iv_ltT, iv_ltF, iv_leT, iv_leF, iv_eqT, iv_eqF, iv_div, iv_mod, ↓bnI_s, ↓bnV_s, ↓bnJ_s, ↓bnR_s, rt_e, rt_0, rt_bz, sv_s, sv_o, ur_s, ur_e, ur_o, bz_T, bz_F, nat_eqF, Nat.reduceAdd, ↓q_M_isOf, ↓gI_435_14 F, ↓gd_435 F, il_0, il_1, il_5, il_11, il_14, il_27, hs0]
      · rw [bz_T (by omega)]; simp (disch := first | decide | omega | (simp (disch := first | decide | omega) only [sv_s, sv_o, ur_s, ur_e, ur_o]; omega)) only [↓reduceIte, iv_add, iv_sub, iv_mul, iv_neg, iv_ltT, iv_ltF, iv_leT, iv_leF, iv_eqT, iv_eqF, iv_div, iv_mod, ↓bnI_s, ↓bnV_s, ↓bnJ_s, ↓bnR_s, rt_e, rt_0, rt_bz, sv_s, sv_o, ur_s, ur_e, ur_o, bz_T, bz_F, nat_eqF, Nat.reduceAdd, ↓q_M_isOf, ↓gI_435_14 F, ↓gd_435 F, il_0, il_1, il_5, il_11, il_14, il_27, hs0]
    · rw [bz_T (by omega)]
      have x4 : x ≤ 4 := by omega
      simp (disch := first | decide | omega | (simp (disch := first | decide | omega) only [sv_s, sv_o, ur_s, ur_e, ur_o]; omega)) only [↓reduceIte, iv_add, iv_sub, iv_mul, iv_neg, iv_ltT, iv_ltF, iv_leT, iv_leF, iv_eqT, iv_eqF, iv_div, iv_mod, ↓bnI_s, ↓bnV_s, ↓bnJ_s, ↓bnR_s, rt_e, rt_0, rt_bz, sv_s, sv_o, ur_s, ur_e, ur_o, bz_T, bz_F, nat_eqF, Nat.reduceAdd, ↓q_M_isOf, ↓gI_435_14 F, ↓gd_435 F, il_0, il_1, il_5, il_11, il_14, il_27]
end
