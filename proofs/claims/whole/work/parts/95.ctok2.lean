/-! TOKENS, as the class cuts them: signs, and all of them -/
def SB (k : Nat) : Int := (xb2.getD k 0).toInt
theorem SB_rg : ∀ k, k < 11 → 0 < SB k ∧ SB k < 128 ∧ sgK (SB k) = 25 + k := by decide
theorem SB_all : SB 0 = 60 ∧ SB 1 = 62 ∧ SB 2 = 61 ∧ SB 3 = 35 ∧ SB 4 = 43 ∧ SB 5 = 45 ∧ SB 6 = 42 ∧ SB 7 = 47 ∧ SB 8 = 40 ∧ SB 9 = 41 ∧ SB 10 = 59 := by decide
section
variable {V J : Vm} {z : Zz} {b : Int → Int} {n : Int}
theorem y_idx_l (F : Fix z) (W : Wsd V) {x : Int} (hx : -200 ≤ x ∧ x < 256) : ∀ (m j : Nat), j + m = 11 → ∃ r : Int, rX m_StringLatin1_indexOfChar m_StringLatin1_indexOfChar 7 [.ref 4, dd, dd, .int (iv 11), .int (iv x), .int (iv j)] [] (em V J z) = some (.int (iv r), em V J z) ∧ ((r = -1 ∧ ∀ l : Nat, j ≤ l → l < 11 → SB l ≠ x) ∨ ∃ l : Nat, l < 11 ∧ r = l ∧ SB l = x) := by
  intro m
  induction m with
  | zero =>
    intro j hj
    have e : j = 11 := by omega
    subst e
    have e2 : ((11 : Nat) : Int) = 11 := rfl
    rw [e2]
    exact ⟨-1, by (rw [q_StringLatin1_indexOfChar_7]; simp (disch := first | decide | omega | (simp (disch := first | decide | omega) only [sv_s, sv_o, ur_s, ur_e, ur_o]; omega)) only [↓reduceIte, iv_add, iv_sub, iv_mul, iv_neg, iv_ltT, iv_ltF, iv_leT, iv_leF, iv_eqT, iv_eqF, iv_div, iv_mod, ↓bnI_s, ↓bnV_s, ↓bnJ_s, ↓bnR_s, rt_e, rt_0, rt_bz, sv_s, sv_o, ur_s, ur_e, ur_o, bz_T, bz_F, nat_eqF, Nat.reduceAdd, ↓lI_18 F, ↓lI_19 F, ↓lI_20 F, ↓lI_22 F, ↓lI_23 F, ↓lI_25 F, ↓lI_26 F, ↓lI_28 F, ↓lI_29 F, ↓lI_418 F, ↓lI_420 F, ↓lI_421 F, ↓lI_422 F, ↓lI_423 F, ↓lI_425 F, ↓lI_426 F, ↓lI_428 F, ↓lI_429 F, ↓lI_432 F, ↓lI_433 F, ↓lI_434 F, il_0, il_1, il_7]), Or.inl ⟨rfl, fun l h1 h2 => absurd h1 (by omega)⟩⟩
  | succ m ih =>
    intro j hj
    obtain ⟨r, r1, r2⟩ := ih (j + 1) (by omega)
    have v : V 4 (j : Int) = SB j := W.2.2.2 j (by omega)
    have rg := SB_rg j (by omega)
    by_cases q : SB j = x
    · refine ⟨j, ?_, Or.inr ⟨j, by omega, rfl, q⟩⟩
      rw [q] at v
      (rw [q_StringLatin1_indexOfChar_7]; simp (disch := first | decide | omega | (simp (disch := first | decide | omega) only [sv_s, sv_o, ur_s, ur_e, ur_o]; omega)) only [↓reduceIte, iv_add, iv_sub, iv_mul, iv_neg, iv_ltT, iv_ltF, iv_leT, iv_leF, iv_eqT, iv_eqF, iv_div, iv_mod, ↓bnI_s, ↓bnV_s, ↓bnJ_s, ↓bnR_s, rt_e, rt_0, rt_bz, sv_s, sv_o, ur_s, ur_e, ur_o, bz_T, bz_F, nat_eqF, Nat.reduceAdd, ↓lI_18 F, ↓lI_19 F, ↓lI_20 F, ↓lI_22 F, ↓lI_23 F, ↓lI_25 F, ↓lI_26 F, ↓lI_28 F, ↓lI_29 F, ↓lI_418 F, ↓lI_420 F, ↓lI_421 F, ↓lI_422 F, ↓lI_423 F, ↓lI_425 F, ↓lI_426 F, ↓lI_428 F, ↓lI_429 F, ↓lI_432 F, ↓lI_433 F, ↓lI_434 F, il_0, il_1, il_7, ↓ldBx_e (f_s4 F), v])
    · refine ⟨r, ?_, ?_⟩
      · rw [← r1, show ((j + 1 : Nat) : Int) = (j : Int) + 1 by omega]
        have q' : SB j < x ∨ x < SB j := by omega
        (rw [q_StringLatin1_indexOfChar_7]; simp (disch := first | decide | omega | (simp (disch := first | decide | omega) only [sv_s, sv_o, ur_s, ur_e, ur_o]; omega)) only [↓reduceIte, iv_add, iv_sub, iv_mul, iv_neg, iv_ltT, iv_ltF, iv_leT, iv_leF, iv_eqT, iv_eqF, iv_div, iv_mod, ↓bnI_s, ↓bnV_s, ↓bnJ_s, ↓bnR_s, rt_e, rt_0, rt_bz, sv_s, sv_o, ur_s, ur_e, ur_o, bz_T, bz_F, nat_eqF, Nat.reduceAdd, ↓lI_18 F, ↓lI_19 F, ↓lI_20 F, ↓lI_22 F, ↓lI_23 F, ↓lI_25 F, ↓lI_26 F, ↓lI_28 F, ↓lI_29 F, ↓lI_418 F, ↓lI_420 F, ↓lI_421 F, ↓lI_422 F, ↓lI_423 F, ↓lI_425 F, ↓lI_426 F, ↓lI_428 F, ↓lI_429 F, ↓lI_432 F, ↓lI_433 F, ↓lI_434 F, il_0, il_1, il_7, ↓ldBx_e (f_s4 F), v])
      · rcases r2 with ⟨r2, r3⟩ | r2
        · exact Or.inl ⟨r2, fun l l0 l1 => by
            by_cases e : l = j
            · rw [e]; exact q
            · exact r3 l (by omega) l1⟩
        · exact Or.inr r2
theorem y_indexOf (F : Fix z) (W : Wsd V) {c : Int} (hc : 0 ≤ c ∧ c < 256) : ∃ r : Int, cA m_String_indexOf_1 [.ref 2, .int (iv c)] (em V J z) = some (.int (iv r), em V J z) ∧ ((r = -1 ∧ sgK c = 39) ∨ (0 ≤ r ∧ r ≤ 10 ∧ sgK c = 25 + r)) := by
  have w := W.2.1
  have ln := y_len2 (V := V) (J := J) F W
  have i8 := (ch_at hc).2.2
  obtain ⟨r, r1, r2⟩ := y_idx_l (J := J) F W (x := if c < 128 then c else c - 256) (by split <;> omega) 11 0 rfl
  refine ⟨r, ?_, ?_⟩
  · have m1 := y_max (a := 0) (b := 0) (h := em V J z) (by omega)
    have m2 := y_min (a := 11) (b := 11) (h := em V J z) (by omega)
    have e0 : ((0 : Nat) : Int) = 0 := rfl
    have e1 : max (0 : Int) 0 = 0 := rfl
    have e2 : min (11 : Int) 11 = 11 := rfl
    rw [e0] at r1
    rw [e1] at m1
    rw [e2] at m2
    simp (disch := first | decide | omega | (simp (disch := first | decide | omega) only [sv_s, sv_o, ur_s, ur_e, ur_o]; omega)) only [↓reduceIte, iv_add, iv_sub, iv_mul, iv_neg, iv_ltT, iv_ltF, iv_leT, iv_leF, iv_eqT, iv_eqF, iv_div, iv_mod, ↓bnI_s, ↓bnV_s, ↓bnJ_s, ↓bnR_s, rt_e, rt_0, rt_bz, sv_s, sv_o, ur_s, ur_e, ur_o, bz_T, bz_F, nat_eqF, Nat.reduceAdd, ↓q_String_indexOf_1, ↓q_String_indexOf, ↓q_String_isLatin1, ↓q_StringLatin1_indexOf, ↓q_StringLatin1_canEncode, ↓q_StringLatin1_indexOfChar, ↓nI_18 F, ↓nI_19 F, ↓nI_20 F, ↓nI_22 F, ↓nI_23 F, ↓nI_25 F, ↓nI_26 F, ↓nI_28 F, ↓nI_29 F, ↓nI_418 F, ↓nI_420 F, ↓nI_421 F, ↓nI_422 F, ↓nI_423 F, ↓nI_425 F, ↓nI_426 F, ↓nI_428 F, ↓nI_429 F, ↓nI_432 F, ↓nI_433 F, ↓nI_434 F, il_0, il_1, il_7, il_12, il_28, il_255, ↓gfR_e (ci := 12) (f_s2 F), ↓gfI_e (ci := 12) (f_s2 F), ↓gd_2 F, f_r2 F, ↓alN_e (f_s4 F) rfl, w, ln, m1, m2, i8, r1, Int.cast_ofNat_Int]
  · rcases r2 with ⟨r2, r3⟩ | ⟨l, l1, l2, l3⟩
    · refine Or.inl ⟨r2, ?_⟩
      obtain ⟨s0, s1, s2, s3, s4, s5, s6, s7, s8, s9, s10⟩ := SB_all
      have t0 := r3 0 (by omega) (by omega)
      have t1 := r3 1 (by omega) (by omega)
      have t2 := r3 2 (by omega) (by omega)
      have t3 := r3 3 (by omega) (by omega)
      have t4 := r3 4 (by omega) (by omega)
      have t5 := r3 5 (by omega) (by omega)
      have t6 := r3 6 (by omega) (by omega)
      have t7 := r3 7 (by omega) (by omega)
      have t8 := r3 8 (by omega) (by omega)
      have t9 := r3 9 (by omega) (by omega)
      have t10 := r3 10 (by omega) (by omega)
      rw [s0] at t0; rw [s1] at t1; rw [s2] at t2; rw [s3] at t3; rw [s4] at t4; rw [s5] at t5; rw [s6] at t6; rw [s7] at t7; rw [s8] at t8; rw [s9] at t9; rw [s10] at t10
      clear r1 r3
      unfold sgK
      by_cases h : c < 128
      · rw [if_pos h] at t0 t1 t2 t3 t4 t5 t6 t7 t8 t9 t10
        rw [if_neg (by omega), if_neg (by omega), if_neg (by omega), if_neg (by omega), if_neg (by omega), if_neg (by omega), if_neg (by omega), if_neg (by omega), if_neg (by omega), if_neg (by omega), if_neg (by omega)]
      · rw [if_neg (by omega), if_neg (by omega), if_neg (by omega), if_neg (by omega), if_neg (by omega), if_neg (by omega), if_neg (by omega), if_neg (by omega), if_neg (by omega), if_neg (by omega), if_neg (by omega)]
    · have rg := SB_rg l l1
      have ec : c = SB l := by
        by_cases h : c < 128
        · rw [if_pos h] at l3; exact l3.symm
        · rw [if_neg h] at l3; omega
      exact Or.inr ⟨by omega, by omega, by rw [ec, rg.2.2, l2]⟩
theorem y_cutSign (F : Fix z) (B : By V b n) (W : Wsd V) (ht : 0 ≤ V 419 5 ∧ V 419 5 ≤ 300) {p : Int} (hp : 0 ≤ p ∧ p < n) : ∃ k e, SG b n p e k ∧ (p < e ∧ e ≤ n ∧ 0 ≤ k ∧ k < 40) ∧ cA m_Tape_cutSign [.ref 419, .int (iv p)] (em V J z) = some (.int (iv e), em (tkd V k 0 p) J z) := by
  have b3 := B.2.2.1
  have by1 := y_byteAt (J := J) F B (i := p) hp
  have rg := B.2.2.2 p hp.1 hp.2
  have by2 : ∃ d, cA m_Tape_byteAt [.ref 419, .int (iv (p + 1))] (em V J z) = some (.int (iv d), em V J z) ∧ (0 ≤ d ∧ d < 256) ∧ (d = 61 ↔ p + 1 < n ∧ b (p + 1) = 61) := by
    by_cases q : p + 1 < n
    · exact ⟨b (p + 1), y_byteAt (J := J) F B (by omega), B.2.2.2 _ (by omega) q, fun h => ⟨q, h⟩, fun h => h.2⟩
    · exact ⟨0, y_byteAt0 (J := J) F B (by omega), by omega, fun h => absurd h (by decide), fun h => absurd h.1 q⟩
  obtain ⟨d, by2, dr, d61⟩ := by2
  obtain ⟨r, ix, rr⟩ := y_indexOf (J := J) F W rg
  have cu := (ch_at rg).2.1
  have key : ¬ ((b p = 60 ∨ b p = 62) ∧ p + 1 < n ∧ b (p + 1) = 61) → ∃ k e, SG b n p e k ∧ (p < e ∧ e ≤ n ∧ 0 ≤ k ∧ k < 40) ∧ rX m_Tape_cutSign m_Tape_cutSign 63 [.ref 419, .int (iv p), .int (iv (b p)), dd, dd] [] (em V J z) = some (.int (iv e), em (tkd V k 0 p) J z) := by
    intro no
    rcases rr with ⟨r1, r2⟩ | ⟨r1, r2, r3⟩
    · have ad := y_addToken (V := V) (J := J) F (k := 39) (v := 0) (p := p) ht
      rw [r1] at ix
      refine ⟨39, p + 1, Or.inr (Or.inr ⟨no, r2.symm, rfl⟩), by omega, ?_⟩
      generalize b p = c at *
      (rw [q_Tape_cutSign_63]; simp (disch := first | decide | omega | (simp (disch := first | decide | omega) only [sv_s, sv_o, ur_s, ur_e, ur_o]; omega)) only [↓reduceIte, iv_add, iv_sub, iv_mul, iv_neg, iv_ltT, iv_ltF, iv_leT, iv_leF, iv_eqT, iv_eqF, iv_div, iv_mod, ↓bnI_s, ↓bnV_s, ↓bnJ_s, ↓bnR_s, rt_e, rt_0, rt_bz, sv_s, sv_o, ur_s, ur_e, ur_o, bz_T, bz_F, nat_eqF, Nat.reduceAdd, il_0, il_1, il_2, il_25, il_39, il_63, il_65536, cu, ix, ad])
    · have ad := y_addToken (V := V) (J := J) F (k := 25 + r) (v := 0) (p := p) ht
      refine ⟨25 + r, p + 1, Or.inr (Or.inr ⟨no, r3.symm, rfl⟩), by omega, ?_⟩
      generalize b p = c at *
      (rw [q_Tape_cutSign_63]; simp (disch := first | decide | omega | (simp (disch := first | decide | omega) only [sv_s, sv_o, ur_s, ur_e, ur_o]; omega)) only [↓reduceIte, iv_add, iv_sub, iv_mul, iv_neg, iv_ltT, iv_ltF, iv_leT, iv_leF, iv_eqT, iv_eqF, iv_div, iv_mod, ↓bnI_s, ↓bnV_s, ↓bnJ_s, ↓bnR_s, rt_e, rt_0, rt_bz, sv_s, sv_o, ur_s, ur_e, ur_o, bz_T, bz_F, nat_eqF, Nat.reduceAdd, il_0, il_1, il_2, il_25, il_39, il_63, il_65536, cu, ix, ad])
  by_cases q : d = 61
  · have w := d61.mp q
    rw [q] at by2
    by_cases q1 : b p = 60
    · have ad := y_addToken (V := V) (J := J) F (k := 36) (v := 0) (p := p) ht
      refine ⟨36, p + 2, Or.inl ⟨q1, w, rfl, rfl⟩, by omega, ?_⟩
      rw [q1] at by1
      simp (disch := first | decide | omega | (simp (disch := first | decide | omega) only [sv_s, sv_o, ur_s, ur_e, ur_o]; omega)) only [↓reduceIte, iv_add, iv_sub, iv_mul, iv_neg, iv_ltT, iv_ltF, iv_leT, iv_leF, iv_eqT, iv_eqF, iv_div, iv_mod, ↓bnI_s, ↓bnV_s, ↓bnJ_s, ↓bnR_s, rt_e, rt_0, rt_bz, sv_s, sv_o, ur_s, ur_e, ur_o, bz_T, bz_F, nat_eqF, Nat.reduceAdd, ↓q_Tape_cutSign, ↓q_Tape_cutSign_23, ↓q_Tape_cutSign_40, ↓gd_419 F, il_0, il_1, il_2, il_23, il_24, il_36, il_37, il_40, il_60, il_61, il_62, il_63, by1, by2, ad]
    · by_cases q2 : b p = 62
      · have ad := y_addToken (V := V) (J := J) F (k := 37) (v := 0) (p := p) ht
        refine ⟨37, p + 2, Or.inr (Or.inl ⟨q2, w, rfl, rfl⟩), by omega, ?_⟩
        rw [q2] at by1
        simp (disch := first | decide | omega | (simp (disch := first | decide | omega) only [sv_s, sv_o, ur_s, ur_e, ur_o]; omega)) only [↓reduceIte, iv_add, iv_sub, iv_mul, iv_neg, iv_ltT, iv_ltF, iv_leT, iv_leF, iv_eqT, iv_eqF, iv_div, iv_mod, ↓bnI_s, ↓bnV_s, ↓bnJ_s, ↓bnR_s, rt_e, rt_0, rt_bz, sv_s, sv_o, ur_s, ur_e, ur_o, bz_T, bz_F, nat_eqF, Nat.reduceAdd, ↓q_Tape_cutSign, ↓q_Tape_cutSign_23, ↓q_Tape_cutSign_40, ↓gd_419 F, il_0, il_1, il_2, il_23, il_24, il_36, il_37, il_40, il_60, il_61, il_62, il_63, by1, by2, ad]
      · obtain ⟨k, e, s1, s2, s3⟩ := key (fun x => by omega)
        refine ⟨k, e, s1, s2, ?_⟩
        rw [← s3]
        have q1' : b p < 60 ∨ 60 < b p := by omega
        have q2' : b p < 62 ∨ 62 < b p := by omega
        clear s1 s3 key ix rr cu d61
        generalize b p = c at *
        simp (disch := first | decide | omega | (simp (disch := first | decide | omega) only [sv_s, sv_o, ur_s, ur_e, ur_o]; omega)) only [↓reduceIte, iv_add, iv_sub, iv_mul, iv_neg, iv_ltT, iv_ltF, iv_leT, iv_leF, iv_eqT, iv_eqF, iv_div, iv_mod, ↓bnI_s, ↓bnV_s, ↓bnJ_s, ↓bnR_s, rt_e, rt_0, rt_bz, sv_s, sv_o, ur_s, ur_e, ur_o, bz_T, bz_F, nat_eqF, Nat.reduceAdd, ↓q_Tape_cutSign, ↓q_Tape_cutSign_23, ↓gd_419 F, il_0, il_1, il_23, il_24, il_40, il_60, il_61, il_62, il_63, by1, by2]
  · obtain ⟨k, e, s1, s2, s3⟩ := key (fun x => q (d61.mpr x.2))
    refine ⟨k, e, s1, s2, ?_⟩
    rw [← s3]
    have q' : d < 61 ∨ 61 < d := by omega
    clear s1 s3 key ix rr cu d61
    generalize b p = c at *
    simp (disch := first | decide | omega | (simp (disch := first | decide | omega) only [sv_s, sv_o, ur_s, ur_e, ur_o]; omega)) only [↓reduceIte, iv_add, iv_sub, iv_mul, iv_neg, iv_ltT, iv_ltF, iv_leT, iv_leF, iv_eqT, iv_eqF, iv_div, iv_mod, ↓bnI_s, ↓bnV_s, ↓bnJ_s, ↓bnR_s, rt_e, rt_0, rt_bz, sv_s, sv_o, ur_s, ur_e, ur_o, bz_T, bz_F, nat_eqF, Nat.reduceAdd, ↓q_Tape_cutSign, ↓q_Tape_cutSign_23, ↓gd_419 F, il_0, il_1, il_23, il_24, il_40, il_60, il_61, il_62, il_63, by1, by2]
/-- what cutting touches -/
def frTk (V V' : Vm) : Prop := (∀ a, a ≠ 419 → a ≠ 421 → a ≠ 422 → a ≠ 423 → V' a = V a) ∧ ∀ k, k ≠ 5 → V' 419 k = V 419 k
theorem frTk.tr {V V' V'' : Vm} (h : frTk V V') (h' : frTk V' V'') : frTk V V'' := ⟨fun a h1 h2 h3 h4 => (h'.1 a h1 h2 h3 h4).trans (h.1 a h1 h2 h3 h4), fun k hk => (h'.2 k hk).trans (h.2 k hk)⟩
theorem frTk.tkd_ {k v p : Int} : frTk V (tkd V k v p) := ⟨fun a h1 h2 h3 h4 => tkd_o h2 h3 h4 h1, fun k hk => by unfold tkd; simp (disch := first | decide | omega | (simp (disch := first | decide | omega) only [sv_s, sv_o, ur_s, ur_e, ur_o]; omega)) only [↓reduceIte, iv_add, iv_sub, iv_mul, iv_neg, iv_ltT, iv_ltF, iv_leT, iv_leF, iv_eqT, iv_eqF, iv_div, iv_mod, ↓bnI_s, ↓bnV_s, ↓bnJ_s, ↓bnR_s, rt_e, rt_0, rt_bz, sv_s, sv_o, ur_s, ur_e, ur_o, bz_T, bz_F, nat_eqF, Nat.reduceAdd]⟩
theorem frTk.by_ {V' : Vm} (h : frTk V V') (B : By V b n) : By V' b n := by
  obtain ⟨b1, b2, b3, b4⟩ := B
  exact ⟨(h.2 1 (by decide)).trans b1, (h.1 420 (by decide) (by decide) (by decide) (by decide)).trans b2, b3, b4⟩
theorem frTk.wds {V' : Vm} (h : frTk V V') (W : Wsd V) : Wsd V' := by
  obtain ⟨w1, w2, w3, w4⟩ := W
  unfold Wsd
  rw [h.1 3 (by decide) (by decide) (by decide) (by decide), h.1 2 (by decide) (by decide) (by decide) (by decide), h.1 5 (by decide) (by decide) (by decide) (by decide), h.1 4 (by decide) (by decide) (by decide) (by decide)]
  exact ⟨w1, w2, w3, w4⟩
/-- all tokens of the tape, from number t on -/
def Tkt (V : Vm) (b : Int → Int) (n : Int) (E : Int → Int) (t e : Int) : Prop := V 419 5 = e + 1 ∧ (t ≤ e ∧ e ≤ n) ∧ ∀ j, t ≤ j → j ≤ e → (j ≤ E j ∧ E j ≤ n) ∧ Tok b n (E j) (V 423 j) (V 421 j) (E (j + 1)) (V 422 j) ∧ (V 421 j = 40 ↔ j = e)
theorem y_cut_l (F : Fix z) : ∀ (m : Nat) (V : Vm) (c0 c i t : Int), By V b n → Wsd V → n - c ≤ m → (0 ≤ c0 ∧ c0 ≤ c ∧ c ≤ n) → (0 ≤ i ∧ i ≤ c) → (0 ≤ t ∧ t ≤ c0) → V 419 5 = t → (∀ j, c0 ≤ j → j < c → isSp (b j)) → ∃ V' E e, rX m_Tape_cutIntoTokens m_Tape_cutIntoTokens 9 [.ref 419, .int (iv c), .int (iv i), dd] [] (em V J z) = some (.null, em V' J z) ∧ frTk V V' ∧ E t = c0 ∧ Tkt V' b n E t e ∧ ∀ j, j < t → V' 421 j = V 421 j ∧ V' 422 j = V 422 j ∧ V' 423 j = V 423 j := by
  have fin : ∀ (V : Vm) (c0 i t : Int), By V b n → (0 ≤ c0 ∧ c0 ≤ n) → (0 ≤ i ∧ i ≤ n) → (0 ≤ t ∧ t ≤ c0) → V 419 5 = t → (∀ j, c0 ≤ j → j < n → isSp (b j)) → ∃ V' E e, rX m_Tape_cutIntoTokens m_Tape_cutIntoTokens 9 [.ref 419, .int (iv n), .int (iv i), dd] [] (em V J z) = some (.null, em V' J z) ∧ frTk V V' ∧ E t = c0 ∧ Tkt V' b n E t e ∧ ∀ j, j < t → V' 421 j = V 421 j ∧ V' 422 j = V 422 j ∧ V' 423 j = V 423 j := by
    intro V c0 i t B hc hi ht h5 sp
    have b1 := B.1
    have b3 := B.2.2.1
    have ad := y_addToken (V := V) (J := J) F (k := 40) (v := 0) (p := n) (by omega)
    refine ⟨tkd V 40 0 n, fun j => if j = t then c0 else n, t, ?_, frTk.tkd_, if_pos rfl, ⟨?_, by omega, fun j j0 j1 => ?_⟩, fun j hj => ?_⟩
    · by_cases q : i < 300
      · (rw [q_Tape_cutIntoTokens_9]; simp (disch := first | decide | omega | (simp (disch := first | decide | omega) only [sv_s, sv_o, ur_s, ur_e, ur_o]; omega)) only [↓reduceIte, iv_add, iv_sub, iv_mul, iv_neg, iv_ltT, iv_ltF, iv_leT, iv_leF, iv_eqT, iv_eqF, iv_div, iv_mod, ↓bnI_s, ↓bnV_s, ↓bnJ_s, ↓bnR_s, rt_e, rt_0, rt_bz, sv_s, sv_o, ur_s, ur_e, ur_o, bz_T, bz_F, nat_eqF, Nat.reduceAdd, ↓gI_419_1 F, il_0, il_1, il_8, il_9, il_10, il_32, il_40, il_300, b1, ad])
      · (rw [q_Tape_cutIntoTokens_9]; simp (disch := first | decide | omega | (simp (disch := first | decide | omega) only [sv_s, sv_o, ur_s, ur_e, ur_o]; omega)) only [↓reduceIte, iv_add, iv_sub, iv_mul, iv_neg, iv_ltT, iv_ltF, iv_leT, iv_leF, iv_eqT, iv_eqF, iv_div, iv_mod, ↓bnI_s, ↓bnV_s, ↓bnJ_s, ↓bnR_s, rt_e, rt_0, rt_bz, sv_s, sv_o, ur_s, ur_e, ur_o, bz_T, bz_F, nat_eqF, Nat.reduceAdd, ↓gI_419_1 F, il_0, il_1, il_8, il_9, il_10, il_32, il_40, il_300, b1, ad])
    · unfold tkd; simp (disch := first | decide | omega | (simp (disch := first | decide | omega) only [sv_s, sv_o, ur_s, ur_e, ur_o]; omega)) only [↓reduceIte, iv_add, iv_sub, iv_mul, iv_neg, iv_ltT, iv_ltF, iv_leT, iv_leF, iv_eqT, iv_eqF, iv_div, iv_mod, ↓bnI_s, ↓bnV_s, ↓bnJ_s, ↓bnR_s, rt_e, rt_0, rt_bz, sv_s, sv_o, ur_s, ur_e, ur_o, bz_T, bz_F, nat_eqF, Nat.reduceAdd, h5]
    · have e : j = t := by omega
      subst e
      have f1 : tkd V 40 0 n 421 j = 40 := by unfold tkd; simp (disch := first | decide | omega | (simp (disch := first | decide | omega) only [sv_s, sv_o, ur_s, ur_e, ur_o]; omega)) only [↓reduceIte, iv_add, iv_sub, iv_mul, iv_neg, iv_ltT, iv_ltF, iv_leT, iv_leF, iv_eqT, iv_eqF, iv_div, iv_mod, ↓bnI_s, ↓bnV_s, ↓bnJ_s, ↓bnR_s, rt_e, rt_0, rt_bz, sv_s, sv_o, ur_s, ur_e, ur_o, bz_T, bz_F, nat_eqF, Nat.reduceAdd, h5]
      have f2 : tkd V 40 0 n 422 j = 0 := by unfold tkd; simp (disch := first | decide | omega | (simp (disch := first | decide | omega) only [sv_s, sv_o, ur_s, ur_e, ur_o]; omega)) only [↓reduceIte, iv_add, iv_sub, iv_mul, iv_neg, iv_ltT, iv_ltF, iv_leT, iv_leF, iv_eqT, iv_eqF, iv_div, iv_mod, ↓bnI_s, ↓bnV_s, ↓bnJ_s, ↓bnR_s, rt_e, rt_0, rt_bz, sv_s, sv_o, ur_s, ur_e, ur_o, bz_T, bz_F, nat_eqF, Nat.reduceAdd, h5]
      have f3 : tkd V 40 0 n 423 j = n := by unfold tkd; simp (disch := first | decide | omega | (simp (disch := first | decide | omega) only [sv_s, sv_o, ur_s, ur_e, ur_o]; omega)) only [↓reduceIte, iv_add, iv_sub, iv_mul, iv_neg, iv_ltT, iv_ltF, iv_leT, iv_leF, iv_eqT, iv_eqF, iv_div, iv_mod, ↓bnI_s, ↓bnV_s, ↓bnJ_s, ↓bnR_s, rt_e, rt_0, rt_bz, sv_s, sv_o, ur_s, ur_e, ur_o, bz_T, bz_F, nat_eqF, Nat.reduceAdd, h5]
      rw [f1, f2, f3]
      show (j ≤ (if j = j then c0 else n) ∧ (if j = j then c0 else n) ≤ n) ∧ Tok b n (if j = j then c0 else n) n 40 (if j + 1 = j then c0 else n) 0 ∧ ((40 : Int) = 40 ↔ j = j)
      rw [if_pos rfl, if_neg (by omega)]
      exact ⟨by omega, ⟨⟨⟨by omega, Int.le_refl _⟩, sp, fun q => absurd q (by omega)⟩, Or.inl ⟨rfl, rfl, rfl, rfl⟩⟩, by simp⟩
    · unfold tkd
      simp (disch := first | decide | omega | (simp (disch := first | decide | omega) only [sv_s, sv_o, ur_s, ur_e, ur_o]; omega)) only [↓reduceIte, iv_add, iv_sub, iv_mul, iv_neg, iv_ltT, iv_ltF, iv_leT, iv_leF, iv_eqT, iv_eqF, iv_div, iv_mod, ↓bnI_s, ↓bnV_s, ↓bnJ_s, ↓bnR_s, rt_e, rt_0, rt_bz, sv_s, sv_o, ur_s, ur_e, ur_o, bz_T, bz_F, nat_eqF, Nat.reduceAdd, h5, and_self]
  intro m
  induction m with
  | zero =>
    intro V c0 c i t B W hm hc hi ht h5 sp
    have e : c = n := by omega
    subst e
    exact fin V c0 i t B (by omega) hi ht h5 sp
  | succ m ih =>
    intro V c0 c i t B W hm hc hi ht h5 sp
    have b1 := B.1
    have b3 := B.2.2.1
    by_cases q : c = n
    · subst q
      exact fin V c0 i t B (by omega) hi ht h5 sp
    · have cn : c < n := by omega
      have by1 := y_byteAt (J := J) F B (i := c) (by omega)
      have rg := B.2.2.2 c (by omega) cn
      have dg := y_isDigit (c := b c) (h := em V J z) rg
      have lt := y_isLetter (c := b c) (h := em V J z) rg
      have t5 : 0 ≤ V 419 5 ∧ V 419 5 ≤ 300 := by omega
      have take : ∀ k v e1, Tok b n c0 c k e1 v → (0 ≤ k ∧ k < 40) → (c < e1 ∧ e1 ≤ n) → rX m_Tape_cutIntoTokens m_Tape_cutIntoTokens 9 [.ref 419, .int (iv c), .int (iv i), dd] [] (em V J z) = rX m_Tape_cutIntoTokens m_Tape_cutIntoTokens 9 [.ref 419, .int (iv e1), .int (iv (i + 1)), dd] [] (em (tkd V k v c) J z) → ∃ V' E e, rX m_Tape_cutIntoTokens m_Tape_cutIntoTokens 9 [.ref 419, .int (iv c), .int (iv i), dd] [] (em V J z) = some (.null, em V' J z) ∧ frTk V V' ∧ E t = c0 ∧ Tkt V' b n E t e ∧ ∀ j, j < t → V' 421 j = V 421 j ∧ V' 422 j = V 422 j ∧ V' 423 j = V 423 j := by
        intro k v e1 tk kr er st
        obtain ⟨V', E, e, r1, r2, r3, ⟨r4, r5, r6⟩, r7⟩ := ih (tkd V k v c) e1 e1 (i + 1) (t + 1) (tkd_By B) (frTk.tkd_.wds W) (by omega) (by omega) (by omega) (by omega) (by unfold tkd; simp (disch := first | decide | omega | (simp (disch := first | decide | omega) only [sv_s, sv_o, ur_s, ur_e, ur_o]; omega)) only [↓reduceIte, iv_add, iv_sub, iv_mul, iv_neg, iv_ltT, iv_ltF, iv_leT, iv_leF, iv_eqT, iv_eqF, iv_div, iv_mod, ↓bnI_s, ↓bnV_s, ↓bnJ_s, ↓bnR_s, rt_e, rt_0, rt_bz, sv_s, sv_o, ur_s, ur_e, ur_o, bz_T, bz_F, nat_eqF, Nat.reduceAdd, h5]) (fun j j0 j1 => absurd j1 (by omega))
        have g := r7 t (by omega)
        have f1 : tkd V k v c 421 t = k := by unfold tkd; simp (disch := first | decide | omega | (simp (disch := first | decide | omega) only [sv_s, sv_o, ur_s, ur_e, ur_o]; omega)) only [↓reduceIte, iv_add, iv_sub, iv_mul, iv_neg, iv_ltT, iv_ltF, iv_leT, iv_leF, iv_eqT, iv_eqF, iv_div, iv_mod, ↓bnI_s, ↓bnV_s, ↓bnJ_s, ↓bnR_s, rt_e, rt_0, rt_bz, sv_s, sv_o, ur_s, ur_e, ur_o, bz_T, bz_F, nat_eqF, Nat.reduceAdd, h5]
        have f2 : tkd V k v c 422 t = v := by unfold tkd; simp (disch := first | decide | omega | (simp (disch := first | decide | omega) only [sv_s, sv_o, ur_s, ur_e, ur_o]; omega)) only [↓reduceIte, iv_add, iv_sub, iv_mul, iv_neg, iv_ltT, iv_ltF, iv_leT, iv_leF, iv_eqT, iv_eqF, iv_div, iv_mod, ↓bnI_s, ↓bnV_s, ↓bnJ_s, ↓bnR_s, rt_e, rt_0, rt_bz, sv_s, sv_o, ur_s, ur_e, ur_o, bz_T, bz_F, nat_eqF, Nat.reduceAdd, h5]
        have f3 : tkd V k v c 423 t = c := by unfold tkd; simp (disch := first | decide | omega | (simp (disch := first | decide | omega) only [sv_s, sv_o, ur_s, ur_e, ur_o]; omega)) only [↓reduceIte, iv_add, iv_sub, iv_mul, iv_neg, iv_ltT, iv_ltF, iv_leT, iv_leF, iv_eqT, iv_eqF, iv_div, iv_mod, ↓bnI_s, ↓bnV_s, ↓bnJ_s, ↓bnR_s, rt_e, rt_0, rt_bz, sv_s, sv_o, ur_s, ur_e, ur_o, bz_T, bz_F, nat_eqF, Nat.reduceAdd, h5]
        rw [f1, f2, f3] at g
        refine ⟨V', fun j => if j = t then c0 else E j, e, st.trans r1, frTk.tkd_.tr r2, if_pos rfl, ⟨r4, by omega, fun j j0 j1 => ?_⟩, fun j hj => ?_⟩
        · show (j ≤ (if j = t then c0 else E j) ∧ (if j = t then c0 else E j) ≤ n) ∧ Tok b n (if j = t then c0 else E j) (V' 423 j) (V' 421 j) (if j + 1 = t then c0 else E (j + 1)) (V' 422 j) ∧ (V' 421 j = 40 ↔ j = e)
          by_cases w : j = t
          · subst w
            rw [if_pos rfl, if_neg (by omega), g.1, g.2.1, g.2.2, r3]
            exact ⟨by omega, tk, by omega⟩
          · rw [if_neg w, if_neg (by omega)]
            exact r6 j (by omega) j1
        · have o := r7 j (by omega)
          rw [o.1, o.2.1, o.2.2]
          unfold tkd
          simp (disch := first | decide | omega | (simp (disch := first | decide | omega) only [sv_s, sv_o, ur_s, ur_e, ur_o]; omega)) only [↓reduceIte, iv_add, iv_sub, iv_mul, iv_neg, iv_ltT, iv_ltF, iv_leT, iv_leF, iv_eqT, iv_eqF, iv_div, iv_mod, ↓bnI_s, ↓bnV_s, ↓bnJ_s, ↓bnR_s, rt_e, rt_0, rt_bz, sv_s, sv_o, ur_s, ur_e, ur_o, bz_T, bz_F, nat_eqF, Nat.reduceAdd, h5, and_self]
      have rsp : ¬ isSp (b c) → Rn isSp b n c0 c := fun x => ⟨by omega, sp, fun _ => x⟩
      by_cases s1 : b c = 32
      · obtain ⟨V', E, e, r1, r2, r3, r4, r5⟩ := ih V c0 (c + 1) (i + 1) t B W (by omega) (by omega) (by omega) ht h5 (fun j j0 j1 => by
          by_cases w : j = c
          · rw [w]; exact Or.inl s1
          · exact sp j j0 (by omega))
        rw [s1] at by1
        exact ⟨V', E, e, by rw [← r1]; (rw [q_Tape_cutIntoTokens_9]; simp (disch := first | decide | omega | (simp (disch := first | decide | omega) only [sv_s, sv_o, ur_s, ur_e, ur_o]; omega)) only [↓reduceIte, iv_add, iv_sub, iv_mul, iv_neg, iv_ltT, iv_ltF, iv_leT, iv_leF, iv_eqT, iv_eqF, iv_div, iv_mod, ↓bnI_s, ↓bnV_s, ↓bnJ_s, ↓bnR_s, rt_e, rt_0, rt_bz, sv_s, sv_o, ur_s, ur_e, ur_o, bz_T, bz_F, nat_eqF, Nat.reduceAdd, ↓gI_419_1 F, il_0, il_1, il_8, il_9, il_10, il_32, il_40, il_300, b1, by1]), r2, r3, r4, r5⟩
      · by_cases s2 : b c = 10
        · obtain ⟨V', E, e, r1, r2, r3, r4, r5⟩ := ih V c0 (c + 1) (i + 1) t B W (by omega) (by omega) (by omega) ht h5 (fun j j0 j1 => by
            by_cases w : j = c
            · rw [w]; exact Or.inr s2
            · exact sp j j0 (by omega))
          rw [s2] at by1
          exact ⟨V', E, e, by rw [← r1]; (rw [q_Tape_cutIntoTokens_9]; simp (disch := first | decide | omega | (simp (disch := first | decide | omega) only [sv_s, sv_o, ur_s, ur_e, ur_o]; omega)) only [↓reduceIte, iv_add, iv_sub, iv_mul, iv_neg, iv_ltT, iv_ltF, iv_leT, iv_leF, iv_eqT, iv_eqF, iv_div, iv_mod, ↓bnI_s, ↓bnV_s, ↓bnJ_s, ↓bnR_s, rt_e, rt_0, rt_bz, sv_s, sv_o, ur_s, ur_e, ur_o, bz_T, bz_F, nat_eqF, Nat.reduceAdd, ↓gI_419_1 F, il_0, il_1, il_8, il_9, il_10, il_32, il_40, il_300, b1, by1]), r2, r3, r4, r5⟩
        · have nsp : ¬ isSp (b c) := fun x => by unfold isSp at x; omega
          have s1' : b c < 32 ∨ 32 < b c := by omega
          have s2' : b c < 10 ∨ 10 < b c := by omega
          by_cases d : 48 ≤ b c ∧ b c ≤ 57
          · obtain ⟨e1, R⟩ := Rn.ex isDg b (n := n) (n - c).toNat c (by omega)
            have sR := R.step cn d
            have ct := y_cutNumber_l (J := J) F B (s := c) (e := e1) (by omega) t5 (e1 - c).toNat c 0 R (by have := R.1; omega) (by omega) (by omega)
            rw [show c - c = 0 by omega] at ct
            rw [bz_T d] at dg
            refine take 38 (nmC b c (e1 - c).toNat 0) e1 ⟨rsp nsp, Or.inr (Or.inl ⟨cn, d, R, rfl, rfl⟩)⟩ (by decide) ⟨sR.1, R.1.2⟩ ?_
            have cn2 : cA m_Tape_cutNumber [.ref 419, .int (iv c)] (em V J z) = some (.int (iv e1), em (tkd V 38 (nmC b c (e1 - c).toNat 0) c) J z) := by rw [q_Tape_cutNumber, gd_419 F, il_0]; exact ct
            clear ct take ih fin
            generalize tkd V 38 (nmC b c (e1 - c).toNat 0) c = V1 at *
            generalize b c = x at *
            (rw [q_Tape_cutIntoTokens_9]; simp (disch := first | decide | omega | (simp (disch := first | decide | omega) only [sv_s, sv_o, ur_s, ur_e, ur_o]; omega)) only [↓reduceIte, iv_add, iv_sub, iv_mul, iv_neg, iv_ltT, iv_ltF, iv_leT, iv_leF, iv_eqT, iv_eqF, iv_div, iv_mod, ↓bnI_s, ↓bnV_s, ↓bnJ_s, ↓bnR_s, rt_e, rt_0, rt_bz, sv_s, sv_o, ur_s, ur_e, ur_o, bz_T, bz_F, nat_eqF, Nat.reduceAdd, ↓gI_419_1 F, il_0, il_1, il_8, il_9, il_10, il_32, il_40, il_300, b1, by1, dg, cn2])
          · rw [bz_F d] at dg
            by_cases l : (97 ≤ b c ∧ b c ≤ 122) ∨ (65 ≤ b c ∧ b c ≤ 90)
            · obtain ⟨e1, R⟩ := Rn.ex isLt b (n := n) (n - c).toNat c (by omega)
              have sR := R.step cn l
              have R1 := R.1
              obtain ⟨k, wk, ct⟩ := y_cutWord_l (J := J) F B W (s := c) (e := e1) (by omega) t5
              have kr := wk.rg
              have ct := ct (e1 - c).toNat c R (by omega) (by omega)
              rw [show c - c = 0 by omega] at ct
              rw [bz_T l] at lt
              refine take k 0 e1 ⟨rsp nsp, Or.inr (Or.inr (Or.inl ⟨cn, l, R, wk, rfl⟩))⟩ (by omega) ⟨sR.1, R.1.2⟩ ?_
              have cn2 : cA m_Tape_cutWord [.ref 419, .int (iv c)] (em V J z) = some (.int (iv e1), em (tkd V k 0 c) J z) := by rw [q_Tape_cutWord, gd_419 F, il_0]; exact ct
              clear ct take ih fin l d
              generalize tkd V k 0 c = V1 at *
              generalize b c = x at *
              (rw [q_Tape_cutIntoTokens_9]; simp (disch := first | decide | omega | (simp (disch := first | decide | omega) only [sv_s, sv_o, ur_s, ur_e, ur_o]; omega)) only [↓reduceIte, iv_add, iv_sub, iv_mul, iv_neg, iv_ltT, iv_ltF, iv_leT, iv_leF, iv_eqT, iv_eqF, iv_div, iv_mod, ↓bnI_s, ↓bnV_s, ↓bnJ_s, ↓bnR_s, rt_e, rt_0, rt_bz, sv_s, sv_o, ur_s, ur_e, ur_o, bz_T, bz_F, nat_eqF, Nat.reduceAdd, ↓gI_419_1 F, il_0, il_1, il_8, il_9, il_10, il_32, il_40, il_300, b1, by1, dg, lt, cn2])
            · rw [bz_F l] at lt
              obtain ⟨k, e1, sg, se, cs⟩ := y_cutSign (J := J) F B W t5 (p := c) (by omega)
              refine take k 0 e1 ⟨rsp nsp, Or.inr (Or.inr (Or.inr ⟨cn, nsp, d, l, sg, rfl⟩))⟩ (by omega) (by omega) ?_
              clear take ih fin l d
              generalize tkd V k 0 c = V1 at *
              generalize b c = x at *
              (rw [q_Tape_cutIntoTokens_9]; simp (disch := first | decide | omega | (simp (disch := first | decide | omega) only [sv_s, sv_o, ur_s, ur_e, ur_o]; omega)) only [↓reduceIte, iv_add, iv_sub, iv_mul, iv_neg, iv_ltT, iv_ltF, iv_leT, iv_leF, iv_eqT, iv_eqF, iv_div, iv_mod, ↓bnI_s, ↓bnV_s, ↓bnJ_s, ↓bnR_s, rt_e, rt_0, rt_bz, sv_s, sv_o, ur_s, ur_e, ur_o, bz_T, bz_F, nat_eqF, Nat.reduceAdd, ↓gI_419_1 F, il_0, il_1, il_8, il_9, il_10, il_32, il_40, il_300, b1, by1, dg, lt, cs])
/-- the tape cut into tokens -/
theorem y_cut (F : Fix z) (B : By V b n) (W : Wsd V) : ∃ V' E e, cA m_Tape_cutIntoTokens [.ref 419] (em V J z) = some (.null, em V' J z) ∧ frTk V V' ∧ E 0 = 0 ∧ Tkt V' b n E 0 e := by
  have b3 := B.2.2.1
  have fr : frTk V (sv V 419 5 0) := ⟨fun a h1 h2 h3 h4 => by simp (disch := first | decide | omega | (simp (disch := first | decide | omega) only [sv_s, sv_o, ur_s, ur_e, ur_o]; omega)) only [↓reduceIte, iv_add, iv_sub, iv_mul, iv_neg, iv_ltT, iv_ltF, iv_leT, iv_leF, iv_eqT, iv_eqF, iv_div, iv_mod, ↓bnI_s, ↓bnV_s, ↓bnJ_s, ↓bnR_s, rt_e, rt_0, rt_bz, sv_s, sv_o, ur_s, ur_e, ur_o, bz_T, bz_F, nat_eqF, Nat.reduceAdd], fun k hk => by simp (disch := first | decide | omega | (simp (disch := first | decide | omega) only [sv_s, sv_o, ur_s, ur_e, ur_o]; omega)) only [↓reduceIte, iv_add, iv_sub, iv_mul, iv_neg, iv_ltT, iv_ltF, iv_leT, iv_leF, iv_eqT, iv_eqF, iv_div, iv_mod, ↓bnI_s, ↓bnV_s, ↓bnJ_s, ↓bnR_s, rt_e, rt_0, rt_bz, sv_s, sv_o, ur_s, ur_e, ur_o, bz_T, bz_F, nat_eqF, Nat.reduceAdd]⟩
  obtain ⟨V', E, e, r1, r2, r3, r4, r5⟩ := y_cut_l (J := J) F n.toNat (sv V 419 5 0) 0 0 0 0 (fr.by_ B) (fr.wds W) (by omega) (by omega) (by omega) (by omega) (by simp (disch := first | decide | omega | (simp (disch := first | decide | omega) only [sv_s, sv_o, ur_s, ur_e, ur_o]; omega)) only [↓reduceIte, iv_add, iv_sub, iv_mul, iv_neg, iv_ltT, iv_ltF, iv_leT, iv_leF, iv_eqT, iv_eqF, iv_div, iv_mod, ↓bnI_s, ↓bnV_s, ↓bnJ_s, ↓bnR_s, rt_e, rt_0, rt_bz, sv_s, sv_o, ur_s, ur_e, ur_o, bz_T, bz_F, nat_eqF, Nat.reduceAdd]) (fun j j0 j1 => absurd j1 (by omega))
  refine ⟨V', E, e, ?_, fr.tr r2, r3, r4⟩
  rw [← r1]
  simp (disch := first | decide | omega | (simp (disch := first | decide | omega) only [sv_s, sv_o, ur_s, ur_e, ur_o]; omega)) only [↓reduceIte, iv_add, iv_sub, iv_mul, iv_neg, iv_ltT, iv_ltF, iv_leT, iv_leF, iv_eqT, iv_eqF, iv_div, iv_mod, ↓bnI_s, ↓bnV_s, ↓bnJ_s, ↓bnR_s, rt_e, rt_0, rt_bz, sv_s, sv_o, ur_s, ur_e, ur_o, bz_T, bz_F, nat_eqF, Nat.reduceAdd, ↓q_Tape_cutIntoTokens, ↓pI_419_5 F, ↓gd_419 F, il_0, il_1, il_5, il_8, il_9, il_24]
end
