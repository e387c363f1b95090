/-! one of the kin told -/
section
variable {V V' : Vm} {A A' : Int → Int} {H : Nat}
theorem Sts_le (h : Sts V H A) : ∀ (m : Nat) (i : Int), 0 ≤ i → i + m + 1 = A 3 → snp A i 0 ≤ A 0 := by
  intro m
  induction m with
  | zero =>
    intro i i0 hi
    have q := (h.2.2.2 i i0 (by omega)).2.1.2.1
    unfold nxt at q
    rw [if_neg (by omega)] at q
    exact q
  | succ m ih =>
    intro i i0 hi
    have q := (h.2.2.2 i i0 (by omega)).2.1.2.1
    unfold nxt at q
    rw [if_pos (by omega)] at q
    have := ih (i + 1) (by omega) (by omega)
    omega
theorem Sts_kin (h : Sts V H A) (h9 : V' H 9 = V H 9) (h10 : V' H 10 = V H 10) (hr : ∀ a, H + 21 ≤ a → a < H + 201 → V' a = V a) (z : A' 0 = A 0 + 1) (z6 : A 0 + 1 ≤ 6) (z3 : A' 3 = A 3) (kk : ∀ k, 0 ≤ k → k < A 0 → A' (11 + k) = A (11 + k) ∧ A' (17 + k) = A (17 + k) ∧ A' (29 + k) = A (29 + k)) (k2 : A' (11 + A 0) = A' (29 + A 0) ∧ A' (17 + A 0) = A 0) (c : ∀ k, 165 ≤ k → k < 1425 → A' k = A k) : Sts V' H A' := by
  obtain ⟨a1, a2, a3, a4⟩ := h
  unfold Sts
  rw [h9, h10, z3]
  refine ⟨a1, a2, a3, fun i i0 i1 => ?_⟩
  obtain ⟨b1, b2, b3, b4⟩ := a4 i i0 i1
  have es : sta V' H i = sta V H i := by unfold sta; rw [h9]
  have sl := sta_lt (V := V) (H := H) a3.1 i i0
  have sc := snp_c (A := A) (A' := A') ⟨i0, by omega⟩ c
  have ule : nxt A i 0 ≤ A 0 := by
    unfold nxt
    split
    · exact Sts_le ⟨a1, a2, a3, a4⟩ (A 3 - (i + 1) - 1).toNat (i + 1) (by omega) (by omega)
    · exact Int.le_refl _
  have trs : Tr V' (sta V H i) (snp A i 0) (snp A' i) := Tr_c (by omega) (hr _ (by omega) (by omega)) (hr _ (by omega) (by omega)) (hr _ (by omega) (by omega)) (hr _ (by omega) (by omega)) (hr _ (by omega) (by omega)) (fun k k0 k1 => sc k (by omega)) (fun k k0 k1 => sc k (by omega)) b3
  unfold Stq
  rw [es, sc 0 (Or.inl rfl), hr _ (by omega) (by omega)]
  by_cases q : i + 1 < A 3
  · have nc : ∀ k, (k = 0 ∨ (7 ≤ k ∧ k < 23)) → nxt A' i k = nxt A i k := by
      intro k hk
      unfold nxt
      rw [z3, if_pos q, if_pos q]
      exact snp_c (A := A) (A' := A') ⟨by omega, by omega⟩ c k (by omega)
    rw [nc 0 (Or.inl rfl)]
    refine ⟨b1, b2, trs, fun k k0 k1 => ?_⟩
    rw [nc _ (by omega), nc _ (by omega), (kk k (by omega) (by omega)).2.2]
    exact b4 k k0 k1
  · have ea : nxt A i = A := by unfold nxt; rw [if_neg q]
    have ea' : nxt A' i = A' := by unfold nxt; rw [z3, if_neg q]
    rw [ea] at b2 b4
    rw [ea', z]
    refine ⟨b1, by omega, trs, fun k k0 k1 => ?_⟩
    by_cases e : k = A 0
    · rw [e]; exact k2
    · obtain ⟨c1, c2, c3⟩ := kk k (by omega) (by omega)
      rw [c1, c2, c3]
      exact b4 k k0 (by omega)
/-- behind a step that has just been saved the table may change -/
theorem Sts_cur (h : Sts V H A) (h9 : V' H 9 = V H 9) (h10 : V' H 10 = V H 10) (hr : ∀ a, H + 21 ≤ a → a < H + 201 → V' a = V a) (z : A' 0 = A 0) (z3 : A' 3 = A 3) (b : ∀ k, 29 ≤ k → k < 35 → A' k = A k) (c : ∀ k, 165 ≤ k → k < 1425 → A' k = A k) (last : ∀ i, 0 ≤ i → i + 1 = A 3 → snp A i 0 = A 0) : Sts V' H A' := by
  obtain ⟨a1, a2, a3, a4⟩ := h
  unfold Sts
  rw [h9, h10, z3]
  refine ⟨a1, a2, a3, fun i i0 i1 => ?_⟩
  obtain ⟨b1, b2, b3, b4⟩ := a4 i i0 i1
  have es : sta V' H i = sta V H i := by unfold sta; rw [h9]
  have sl := sta_lt (V := V) (H := H) a3.1 i i0
  have sc := snp_c (A := A) (A' := A') ⟨i0, by omega⟩ c
  have trs : Tr V' (sta V H i) (snp A i 0) (snp A' i) := Tr_c (by omega) (hr _ (by omega) (by omega)) (hr _ (by omega) (by omega)) (hr _ (by omega) (by omega)) (hr _ (by omega) (by omega)) (hr _ (by omega) (by omega)) (fun k k0 k1 => sc k (by omega)) (fun k k0 k1 => sc k (by omega)) b3
  unfold Stq
  rw [es, sc 0 (Or.inl rfl), hr _ (by omega) (by omega)]
  by_cases q : i + 1 < A 3
  · have nc : ∀ k, (k = 0 ∨ (7 ≤ k ∧ k < 23)) → nxt A' i k = nxt A i k := by
      intro k hk
      unfold nxt
      rw [z3, if_pos q, if_pos q]
      exact snp_c (A := A) (A' := A') ⟨by omega, by omega⟩ c k (by omega)
    rw [nc 0 (Or.inl rfl)]
    refine ⟨b1, b2, trs, fun k k0 k1 => ?_⟩
    rw [nc _ (by omega), nc _ (by omega), b (29 + k) (by omega) (by omega)]
    exact b4 k k0 k1
  · have ea : nxt A i = A := by unfold nxt; rw [if_neg q]
    have ea' : nxt A' i = A' := by unfold nxt; rw [z3, if_neg q]
    have l := last i i0 (by omega)
    rw [ea] at b2
    rw [ea', z]
    exact ⟨b1, b2, trs, fun k k0 k1 => absurd k1 (by omega)⟩
end
section
variable {TX : Vm → Zz → Nat → Int → Prop} {I0 : Nat → Nat → Int32} {V J : Vm} {z : Zz}
/-- a call that changes the house's table, its steps, and the like in the row -/
theorem GI_K (T : TXok TX) {V' : Vm} (g : GI TX I0 V z) (hx : ∀ a k, scr a k = false → ¬ (10 ≤ a ∧ a < 16) → ¬ (30 ≤ a ∧ a < 210) → ¬ (a = 9 ∧ (k = 9 ∨ k = 10)) → a ≠ 436 → V' a k = V a k) (hA : ∀ k, k = 1 ∨ k = 2 ∨ k = 4 ∨ k = 5 ∨ k = 6 ∨ (35 ≤ k ∧ k < 165) → V' 436 k = V 436 k) (h0 : V 436 0 ≤ V' 436 0) (k : Kn V' 10 (V' 436)) (s : Sts V' 9 (V' 436)) : GI TX I0 V' z :=
  GI_c T g (fun a k hs h1 h2 => hx a k hs (by omega) (by omega) (by omega) h2) (HR_K T (fun a ha => funext fun k => hx a k (scr_F (by omega)) (by omega) (by omega) (by omega) (by omega)) (hx 9 11 (scr_F (by omega)) (by omega) (by omega) (by omega) (by omega)) (hx 9 12 (scr_F (by omega)) (by omega) (by omega) (by omega) (by omega)) hA h0 k s g.1) (by rw [hA 1 (by omega)]; exact Int.le_refl _)
theorem y_seat (F : Fix z) {a b : Int} (hn : 0 ≤ V 10 5 ∧ V 10 5 < 6) : cA m_Table_seatOneMore [.ref 10, .int (iv a), .int (iv b)] (em V J z) = some (.int (iv (V 10 5)), em (sv (sv (sv (sv (sv V 11 (V 10 5) a) 12 (V 10 5) b) 13 (V 10 5) (V 10 5)) 14 (V 10 5) (V 10 5)) 10 5 (V 10 5 + 1)) J z) := by
  have T := T10 F
  simp (disch := first | decide | omega | (simp (disch := first | decide | omega) only [sv_s, sv_o, ur_s, ur_e, ur_o]; omega)) only [↓reduceIte, iv_add, iv_sub, iv_mul, iv_neg, iv_ltT, iv_ltF, iv_leT, iv_leF, iv_eqT, iv_eqF, iv_div, iv_mod, ↓bnI_s, ↓bnV_s, ↓bnJ_s, ↓bnR_s, rt_e, rt_0, rt_bz, sv_s, sv_o, ur_s, ur_e, ur_o, bz_T, bz_F, nat_eqF, Nat.reduceAdd, ↓q_Table_seatOneMore, ↓gT_5 T, ↓rT_0 T, ↓rT_1 T, ↓rT_2 T, ↓rT_3 T, ↓pT_5 T, ↓gdT T, il_0, il_1, il_2, il_3, il_5, il_6, il_7, il_23, y_put (s_11 F) (by decide), y_put (s_12 F) (by decide), y_put (s_13 F) (by decide), y_put (s_14 F) (by decide), pt_in]
  exact si (by omega)
theorem y_seat_no (F : Fix z) {a b : Int} (hn : V 10 5 = 6) : cA m_Table_seatOneMore [.ref 10, .int (iv a), .int (iv b)] (em V J z) = some (.int (iv (-1)), em V J z) := by
  have T := T10 F
  simp (disch := first | decide | omega | (simp (disch := first | decide | omega) only [sv_s, sv_o, ur_s, ur_e, ur_o]; omega)) only [↓reduceIte, iv_add, iv_sub, iv_mul, iv_neg, iv_ltT, iv_ltF, iv_leT, iv_leF, iv_eqT, iv_eqF, iv_div, iv_mod, ↓bnI_s, ↓bnV_s, ↓bnJ_s, ↓bnR_s, rt_e, rt_0, rt_bz, sv_s, sv_o, ur_s, ur_e, ur_o, bz_T, bz_F, nat_eqF, Nat.reduceAdd, ↓q_Table_seatOneMore, ↓gT_5 T, ↓rT_0 T, ↓rT_1 T, ↓rT_2 T, ↓rT_3 T, ↓pT_5 T, ↓gdT T, il_0, il_1, il_2, il_3, il_5, il_6, il_7, il_23]
theorem y_begin (F : Fix z) {k : Int} (hk : 0 ≤ k ∧ k < 6) : cA m_M_begin [.ref 435, .int (iv k)] (em V J z) = some (.null, em (sv (sv V 436 (11 + k) (V 436 (29 + k))) 436 (17 + k) k) J z) := by
  simp (disch := first | decide | omega | (simp (disch := first | decide | omega) only [sv_s, sv_o, ur_s, ur_e, ur_o]; omega)) only [↓reduceIte, iv_add, iv_sub, iv_mul, iv_neg, iv_ltT, iv_ltF, iv_leT, iv_leF, iv_eqT, iv_eqF, iv_div, iv_mod, ↓bnI_s, ↓bnV_s, ↓bnJ_s, ↓bnR_s, rt_e, rt_0, rt_bz, sv_s, sv_o, ur_s, ur_e, ur_o, bz_T, bz_F, nat_eqF, Nat.reduceAdd, ↓q_M_begin, ↓gR_435_0 F, ↓lI_436 F, ↓lI_437 F, ↓lI_438 F, ↓lI_439 F, ↓lI_440 F, ↓lI_441 F, ↓lI_443 F, ↓lI_444 F, ↓lI_445 F, ↓lI_446 F, ↓lI_447 F, ↓lI_448 F, ↓lI_449 F, ↓lI_450 F, ↓sI_436 F, ↓sI_437 F, ↓sI_438 F, ↓sI_439 F, ↓sI_440 F, ↓sI_441 F, ↓sI_443 F, ↓sI_444 F, ↓sI_445 F, ↓sI_446 F, ↓sI_447 F, ↓sI_448 F, ↓sI_449 F, ↓sI_450 F, ↓gd_435 F, il_0, il_1, il_11, il_17, il_27, il_29]
theorem p_kin (F : Fix z) (T : TXok TX) (g : GI TX I0 V z) {a b : Int} (ha : (-2147483648 ≤ a ∧ a < 2147483648)) (hb : (-2147483648 ≤ b ∧ b < 2147483648)) : Pc TX I0 V J z (fun h => cA m_X_kin [.ref 8, .int (iv a), .int (iv b)] h) (fun h => cA m_M_kin [.ref 435, .int (iv a), .int (iv b)] h) := by
  obtain ⟨n1, n2, n3, n4⟩ := g.1.1
  have n1 : V 10 5 = V 436 0 := n1
  by_cases h1 : 0 ≤ a ∧ a ≤ 9
  · by_cases h2 : 0 ≤ b ∧ b ≤ 99
    · by_cases h3 : V 436 0 = 6
      · exact Pq.pc T g ⟨-1, V, J, V, J, (by simp (disch := first | decide | omega | (simp (disch := first | decide | omega) only [sv_s, sv_o, ur_s, ur_e, ur_o]; omega)) only [↓reduceIte, iv_add, iv_sub, iv_mul, iv_neg, iv_ltT, iv_ltF, iv_leT, iv_leF, iv_eqT, iv_eqF, iv_div, iv_mod, ↓bnI_s, ↓bnV_s, ↓bnJ_s, ↓bnR_s, rt_e, rt_0, rt_bz, sv_s, sv_o, ur_s, ur_e, ur_o, bz_T, bz_F, nat_eqF, Nat.reduceAdd, ↓q_X_kin, ↓gR_8_0 F, ↓gR_9_0 F, ↓gd_8 F, il_0, il_1, il_2, il_9, il_10, il_26, il_99, y_within, y_seat_no F]), rfl, (by simp (disch := first | decide | omega | (simp (disch := first | decide | omega) only [sv_s, sv_o, ur_s, ur_e, ur_o]; omega)) only [↓reduceIte, iv_add, iv_sub, iv_mul, iv_neg, iv_ltT, iv_ltF, iv_leT, iv_leF, iv_eqT, iv_eqF, iv_div, iv_mod, ↓bnI_s, ↓bnV_s, ↓bnJ_s, ↓bnR_s, rt_e, rt_0, rt_bz, sv_s, sv_o, ur_s, ur_e, ur_o, bz_T, bz_F, nat_eqF, Nat.reduceAdd, ↓q_M_kin, ↓gR_435_0 F, ↓lI_436 F, ↓lI_437 F, ↓lI_438 F, ↓lI_439 F, ↓lI_440 F, ↓lI_441 F, ↓lI_443 F, ↓lI_444 F, ↓lI_445 F, ↓lI_446 F, ↓lI_447 F, ↓lI_448 F, ↓lI_449 F, ↓lI_450 F, ↓sI_436 F, ↓sI_437 F, ↓sI_438 F, ↓sI_439 F, ↓sI_440 F, ↓sI_441 F, ↓sI_443 F, ↓sI_444 F, ↓sI_445 F, ↓sI_446 F, ↓sI_447 F, ↓sI_448 F, ↓sI_449 F, ↓sI_450 F, ↓gd_435 F, il_0, il_1, il_6, il_9, il_11, il_23, il_27, il_29, il_99, y_isIn]), rfl⟩
      · have eX : cA m_X_kin [.ref 8, .int (iv a), .int (iv b)] (em V J z) = some (.int (iv (V 10 5)), em (sv (sv (sv (sv (sv V 11 (V 10 5) a) 12 (V 10 5) b) 13 (V 10 5) (V 10 5)) 14 (V 10 5) (V 10 5)) 10 5 (V 10 5 + 1)) J z) := by
          simp (disch := first | decide | omega | (simp (disch := first | decide | omega) only [sv_s, sv_o, ur_s, ur_e, ur_o]; omega)) only [↓reduceIte, iv_add, iv_sub, iv_mul, iv_neg, iv_ltT, iv_ltF, iv_leT, iv_leF, iv_eqT, iv_eqF, iv_div, iv_mod, ↓bnI_s, ↓bnV_s, ↓bnJ_s, ↓bnR_s, rt_e, rt_0, rt_bz, sv_s, sv_o, ur_s, ur_e, ur_o, bz_T, bz_F, nat_eqF, Nat.reduceAdd, ↓q_X_kin, ↓gR_8_0 F, ↓gR_9_0 F, ↓gd_8 F, il_0, il_1, il_2, il_9, il_10, il_26, il_99, y_within, y_seat F]
        have W : ∃ W, W = sv (sv (sv (sv (sv V 11 (V 10 5) a) 12 (V 10 5) b) 13 (V 10 5) (V 10 5)) 14 (V 10 5) (V 10 5)) 10 5 (V 10 5 + 1) ∧ W 436 = V 436 := ⟨_, rfl, by simp (disch := first | decide | omega | (simp (disch := first | decide | omega) only [sv_s, sv_o, ur_s, ur_e, ur_o]; omega)) only [↓reduceIte, iv_add, iv_sub, iv_mul, iv_neg, iv_ltT, iv_ltF, iv_leT, iv_leF, iv_eqT, iv_eqF, iv_div, iv_mod, ↓bnI_s, ↓bnV_s, ↓bnJ_s, ↓bnR_s, rt_e, rt_0, rt_bz, sv_s, sv_o, ur_s, ur_e, ur_o, bz_T, bz_F, nat_eqF, Nat.reduceAdd]⟩
        obtain ⟨W, hW, w6⟩ := W
        rw [← hW] at eX
        have eM : cA m_M_kin [.ref 435, .int (iv a), .int (iv b)] (em W J z) = some (.int (iv (V 10 5)), em (sv (sv (sv (sv (sv W 436 (23 + V 10 5) a) 436 (29 + V 10 5) b) 436 (11 + V 10 5) b) 436 (17 + V 10 5) (V 10 5)) 436 0 (V 10 5 + 1)) J z) := by
          rw [n1]
          simp (disch := first | decide | omega | (simp (disch := first | decide | omega) only [sv_s, sv_o, ur_s, ur_e, ur_o]; omega)) only [↓reduceIte, iv_add, iv_sub, iv_mul, iv_neg, iv_ltT, iv_ltF, iv_leT, iv_leF, iv_eqT, iv_eqF, iv_div, iv_mod, ↓bnI_s, ↓bnV_s, ↓bnJ_s, ↓bnR_s, rt_e, rt_0, rt_bz, sv_s, sv_o, ur_s, ur_e, ur_o, bz_T, bz_F, nat_eqF, Nat.reduceAdd, ↓q_M_kin, ↓gR_435_0 F, ↓lI_436 F, ↓lI_437 F, ↓lI_438 F, ↓lI_439 F, ↓lI_440 F, ↓lI_441 F, ↓lI_443 F, ↓lI_444 F, ↓lI_445 F, ↓lI_446 F, ↓lI_447 F, ↓lI_448 F, ↓lI_449 F, ↓lI_450 F, ↓sI_436 F, ↓sI_437 F, ↓sI_438 F, ↓sI_439 F, ↓sI_440 F, ↓sI_441 F, ↓sI_443 F, ↓sI_444 F, ↓sI_445 F, ↓sI_446 F, ↓sI_447 F, ↓sI_448 F, ↓sI_449 F, ↓sI_450 F, ↓gd_435 F, il_0, il_1, il_6, il_9, il_11, il_23, il_27, il_29, il_99, y_isIn, w6, y_begin F]
        refine ⟨_, _, J, _, J, eX, eM, ?_⟩
        have X : ∃ X, X = sv (sv (sv (sv (sv W 436 (23 + V 10 5) a) 436 (29 + V 10 5) b) 436 (11 + V 10 5) b) 436 (17 + V 10 5) (V 10 5)) 436 0 (V 10 5 + 1) := ⟨_, rfl⟩
        obtain ⟨X, hX⟩ := X
        rw [← hX]
        generalize hn : V 10 5 = n at *
        have xo : ∀ c, c ≠ 436 → X c = W c := fun c hc => by rw [hX]; simp (disch := first | decide | omega | (simp (disch := first | decide | omega) only [sv_s, sv_o, ur_s, ur_e, ur_o]; omega)) only [↓reduceIte, iv_add, iv_sub, iv_mul, iv_neg, iv_ltT, iv_ltF, iv_leT, iv_leF, iv_eqT, iv_eqF, iv_div, iv_mod, ↓bnI_s, ↓bnV_s, ↓bnJ_s, ↓bnR_s, rt_e, rt_0, rt_bz, sv_s, sv_o, ur_s, ur_e, ur_o, bz_T, bz_F, nat_eqF, Nat.reduceAdd]
        have wo : ∀ c, c ≠ 10 → c ≠ 11 → c ≠ 12 → c ≠ 13 → c ≠ 14 → W c = V c := fun c h1 h2 h3 h4 h5 => by rw [hW]; simp (disch := first | decide | omega | (simp (disch := first | decide | omega) only [sv_s, sv_o, ur_s, ur_e, ur_o]; omega)) only [↓reduceIte, iv_add, iv_sub, iv_mul, iv_neg, iv_ltT, iv_ltF, iv_leT, iv_leF, iv_eqT, iv_eqF, iv_div, iv_mod, ↓bnI_s, ↓bnV_s, ↓bnJ_s, ↓bnR_s, rt_e, rt_0, rt_bz, sv_s, sv_o, ur_s, ur_e, ur_o, bz_T, bz_F, nat_eqF, Nat.reduceAdd]
        have x0 : X 436 0 = n + 1 := by rw [hX]; simp (disch := first | decide | omega | (simp (disch := first | decide | omega) only [sv_s, sv_o, ur_s, ur_e, ur_o]; omega)) only [↓reduceIte, iv_add, iv_sub, iv_mul, iv_neg, iv_ltT, iv_ltF, iv_leT, iv_leF, iv_eqT, iv_eqF, iv_div, iv_mod, ↓bnI_s, ↓bnV_s, ↓bnJ_s, ↓bnR_s, rt_e, rt_0, rt_bz, sv_s, sv_o, ur_s, ur_e, ur_o, bz_T, bz_F, nat_eqF, Nat.reduceAdd]
        have x11 : X 436 (11 + n) = b := by rw [hX]; simp (disch := first | decide | omega | (simp (disch := first | decide | omega) only [sv_s, sv_o, ur_s, ur_e, ur_o]; omega)) only [↓reduceIte, iv_add, iv_sub, iv_mul, iv_neg, iv_ltT, iv_ltF, iv_leT, iv_leF, iv_eqT, iv_eqF, iv_div, iv_mod, ↓bnI_s, ↓bnV_s, ↓bnJ_s, ↓bnR_s, rt_e, rt_0, rt_bz, sv_s, sv_o, ur_s, ur_e, ur_o, bz_T, bz_F, nat_eqF, Nat.reduceAdd]
        have x17 : X 436 (17 + n) = n := by rw [hX]; simp (disch := first | decide | omega | (simp (disch := first | decide | omega) only [sv_s, sv_o, ur_s, ur_e, ur_o]; omega)) only [↓reduceIte, iv_add, iv_sub, iv_mul, iv_neg, iv_ltT, iv_ltF, iv_leT, iv_leF, iv_eqT, iv_eqF, iv_div, iv_mod, ↓bnI_s, ↓bnV_s, ↓bnJ_s, ↓bnR_s, rt_e, rt_0, rt_bz, sv_s, sv_o, ur_s, ur_e, ur_o, bz_T, bz_F, nat_eqF, Nat.reduceAdd]
        have x23 : X 436 (23 + n) = a := by rw [hX]; simp (disch := first | decide | omega | (simp (disch := first | decide | omega) only [sv_s, sv_o, ur_s, ur_e, ur_o]; omega)) only [↓reduceIte, iv_add, iv_sub, iv_mul, iv_neg, iv_ltT, iv_ltF, iv_leT, iv_leF, iv_eqT, iv_eqF, iv_div, iv_mod, ↓bnI_s, ↓bnV_s, ↓bnJ_s, ↓bnR_s, rt_e, rt_0, rt_bz, sv_s, sv_o, ur_s, ur_e, ur_o, bz_T, bz_F, nat_eqF, Nat.reduceAdd]
        have x29 : X 436 (29 + n) = b := by rw [hX]; simp (disch := first | decide | omega | (simp (disch := first | decide | omega) only [sv_s, sv_o, ur_s, ur_e, ur_o]; omega)) only [↓reduceIte, iv_add, iv_sub, iv_mul, iv_neg, iv_ltT, iv_ltF, iv_leT, iv_leF, iv_eqT, iv_eqF, iv_div, iv_mod, ↓bnI_s, ↓bnV_s, ↓bnJ_s, ↓bnR_s, rt_e, rt_0, rt_bz, sv_s, sv_o, ur_s, ur_e, ur_o, bz_T, bz_F, nat_eqF, Nat.reduceAdd]
        have xr : ∀ k, k ≠ 0 → k ≠ 11 + n → k ≠ 17 + n → k ≠ 23 + n → k ≠ 29 + n → X 436 k = V 436 k := fun k h1 h2 h3 h4 h5 => by rw [hX]; simp (disch := first | decide | omega | (simp (disch := first | decide | omega) only [sv_s, sv_o, ur_s, ur_e, ur_o]; omega)) only [↓reduceIte, iv_add, iv_sub, iv_mul, iv_neg, iv_ltT, iv_ltF, iv_leT, iv_leF, iv_eqT, iv_eqF, iv_div, iv_mod, ↓bnI_s, ↓bnV_s, ↓bnJ_s, ↓bnR_s, rt_e, rt_0, rt_bz, sv_s, sv_o, ur_s, ur_e, ur_o, bz_T, bz_F, nat_eqF, Nat.reduceAdd, w6]
        have e10 : ∀ k, k ≠ 5 → X 10 k = V 10 k := fun k hk => by rw [xo 10 (by decide), hW]; simp (disch := first | decide | omega | (simp (disch := first | decide | omega) only [sv_s, sv_o, ur_s, ur_e, ur_o]; omega)) only [↓reduceIte, iv_add, iv_sub, iv_mul, iv_neg, iv_ltT, iv_ltF, iv_leT, iv_leF, iv_eqT, iv_eqF, iv_div, iv_mod, ↓bnI_s, ↓bnV_s, ↓bnJ_s, ↓bnR_s, rt_e, rt_0, rt_bz, sv_s, sv_o, ur_s, ur_e, ur_o, bz_T, bz_F, nat_eqF, Nat.reduceAdd]
        have e105 : X 10 5 = n + 1 := by rw [xo 10 (by decide), hW]; simp (disch := first | decide | omega | (simp (disch := first | decide | omega) only [sv_s, sv_o, ur_s, ur_e, ur_o]; omega)) only [↓reduceIte, iv_add, iv_sub, iv_mul, iv_neg, iv_ltT, iv_ltF, iv_leT, iv_leF, iv_eqT, iv_eqF, iv_div, iv_mod, ↓bnI_s, ↓bnV_s, ↓bnJ_s, ↓bnR_s, rt_e, rt_0, rt_bz, sv_s, sv_o, ur_s, ur_e, ur_o, bz_T, bz_F, nat_eqF, Nat.reduceAdd]
        have e11 : X 11 = ur (V 11) n a := by rw [xo 11 (by decide), hW]; simp (disch := first | decide | omega | (simp (disch := first | decide | omega) only [sv_s, sv_o, ur_s, ur_e, ur_o]; omega)) only [↓reduceIte, iv_add, iv_sub, iv_mul, iv_neg, iv_ltT, iv_ltF, iv_leT, iv_leF, iv_eqT, iv_eqF, iv_div, iv_mod, ↓bnI_s, ↓bnV_s, ↓bnJ_s, ↓bnR_s, rt_e, rt_0, rt_bz, sv_s, sv_o, ur_s, ur_e, ur_o, bz_T, bz_F, nat_eqF, Nat.reduceAdd]
        have e12 : X 12 = ur (V 12) n b := by rw [xo 12 (by decide), hW]; simp (disch := first | decide | omega | (simp (disch := first | decide | omega) only [sv_s, sv_o, ur_s, ur_e, ur_o]; omega)) only [↓reduceIte, iv_add, iv_sub, iv_mul, iv_neg, iv_ltT, iv_ltF, iv_leT, iv_leF, iv_eqT, iv_eqF, iv_div, iv_mod, ↓bnI_s, ↓bnV_s, ↓bnJ_s, ↓bnR_s, rt_e, rt_0, rt_bz, sv_s, sv_o, ur_s, ur_e, ur_o, bz_T, bz_F, nat_eqF, Nat.reduceAdd]
        have e13 : X 13 = ur (V 13) n n := by rw [xo 13 (by decide), hW]; simp (disch := first | decide | omega | (simp (disch := first | decide | omega) only [sv_s, sv_o, ur_s, ur_e, ur_o]; omega)) only [↓reduceIte, iv_add, iv_sub, iv_mul, iv_neg, iv_ltT, iv_ltF, iv_leT, iv_leF, iv_eqT, iv_eqF, iv_div, iv_mod, ↓bnI_s, ↓bnV_s, ↓bnJ_s, ↓bnR_s, rt_e, rt_0, rt_bz, sv_s, sv_o, ur_s, ur_e, ur_o, bz_T, bz_F, nat_eqF, Nat.reduceAdd]
        have e14 : X 14 = ur (V 14) n n := by rw [xo 14 (by decide), hW]; simp (disch := first | decide | omega | (simp (disch := first | decide | omega) only [sv_s, sv_o, ur_s, ur_e, ur_o]; omega)) only [↓reduceIte, iv_add, iv_sub, iv_mul, iv_neg, iv_ltT, iv_ltF, iv_leT, iv_leF, iv_eqT, iv_eqF, iv_div, iv_mod, ↓bnI_s, ↓bnV_s, ↓bnJ_s, ↓bnR_s, rt_e, rt_0, rt_bz, sv_s, sv_o, ur_s, ur_e, ur_o, bz_T, bz_F, nat_eqF, Nat.reduceAdd]
        have eo : ∀ c, c ≠ 436 → ¬ (10 ≤ c ∧ c < 15) → X c = V c := fun c h1 h2 => (xo c h1).trans (wo c (by omega) (by omega) (by omega) (by omega) (by omega))
        clear hX hW eX eM xo wo w6
        refine GI_K T g (fun c k _ h1 h2 h3 h4 => by rw [eo c h4 (by omega)]) (fun k hk => xr k (by omega) (by omega) (by omega) (by omega) (by omega)) (by omega) ?_ ?_
        · obtain ⟨r1, r2, r3, r4, r5, r6, r7⟩ := n4
          refine ⟨e105.trans x0.symm, by omega, fun k k0 k1 => ?_, fun k k0 k1 => ?_, fun s s0 s1 => ?_, ?_, ?_, ?_, ?_, ?_⟩
          · rw [show (10 : Nat) + 1 = 11 from rfl, e11]
            by_cases q : k = n
            · rw [q, ur_s, x23, x29]; exact ⟨rfl, h1, h2⟩
            · rw [ur_o q, xr (23 + k) (by omega) (by omega) (by omega) (by omega) (by omega), xr (29 + k) (by omega) (by omega) (by omega) (by omega) (by omega)]
              exact n3 k k0 (by omega)
          · unfold Tk
            rw [show (10 : Nat) + 2 = 12 from rfl, show (10 : Nat) + 3 = 13 from rfl, show (10 : Nat) + 4 = 14 from rfl, e12, e13, e14, x0]
            by_cases q : k = n
            · rw [q, ur_s, ur_s, x11, x17, ur_s]; exact ⟨rfl, rfl, rfl, h2, by omega⟩
            · have d := r1 k k0 (by omega)
              have d1 : V 12 k = V 436 (11 + k) := d.1
              have d2 : V 13 k = V 436 (17 + k) := d.2.1
              have d3 : V 14 (V 436 (17 + k)) = k := d.2.2.1
              have d4 := d.2.2.2
              rw [ur_o q, ur_o q, xr (11 + k) (by omega) (by omega) (by omega) (by omega) (by omega), xr (17 + k) (by omega) (by omega) (by omega) (by omega) (by omega), ur_o (by omega)]
              exact ⟨d1, d2, d3, d4.1, by omega⟩
          · unfold Ts
            rw [show (10 : Nat) + 4 = 14 from rfl, e14, x0]
            by_cases q : s = n
            · rw [q, ur_s, x17]; exact ⟨by omega, rfl⟩
            · have d := r2 s s0 (by omega)
              have d1 : 0 ≤ V 14 s ∧ V 14 s < V 436 0 := d.1
              have d2 : V 436 (17 + V 14 s) = s := d.2
              rw [ur_o q, xr (17 + V 14 s) (by omega) (by omega) (by omega) (by omega) (by omega)]
              exact ⟨by omega, d2⟩
          · rw [e10 6 (by omega), xr 10 (by omega) (by omega) (by omega) (by omega) (by omega)]; exact r3
          · rw [e10 7 (by omega), xr 7 (by omega) (by omega) (by omega) (by omega) (by omega)]; exact r4
          · rw [e10 8 (by omega), xr 8 (by omega) (by omega) (by omega) (by omega) (by omega)]; exact r5
          · rw [e10 9 (by omega), xr 9 (by omega) (by omega) (by omega) (by omega) (by omega)]; exact r6
          · intro i i0 i1
            rw [xr 9 (by omega) (by omega) (by omega) (by omega) (by omega)] at i1
            rw [show (10 : Nat) + 5 = 15 from rfl, eo 15 (by decide) (by omega), xr _ (by omega) (by omega) (by omega) (by omega) (by omega)]
            exact r7 i i0 i1
        · refine Sts_kin g.1.2.1 (by rw [eo 9 (by decide) (by omega)]) (by rw [eo 9 (by decide) (by omega)]) (fun c h1 h2 => eo c (by omega) (by omega)) (by omega) (by omega) (xr 3 (by omega) (by omega) (by omega) (by omega) (by omega)) (fun k k0 k1 => ⟨xr _ (by omega) (by omega) (by omega) (by omega) (by omega), xr _ (by omega) (by omega) (by omega) (by omega) (by omega), xr _ (by omega) (by omega) (by omega) (by omega) (by omega)⟩) ?_ (fun k k0 k1 => xr k (by omega) (by omega) (by omega) (by omega) (by omega))
          rw [← n1, x11, x17, x29]
          exact ⟨rfl, rfl⟩
    · exact Pq.pc T g ⟨-1, V, J, V, J, (by simp (disch := first | decide | omega | (simp (disch := first | decide | omega) only [sv_s, sv_o, ur_s, ur_e, ur_o]; omega)) only [↓reduceIte, iv_add, iv_sub, iv_mul, iv_neg, iv_ltT, iv_ltF, iv_leT, iv_leF, iv_eqT, iv_eqF, iv_div, iv_mod, ↓bnI_s, ↓bnV_s, ↓bnJ_s, ↓bnR_s, rt_e, rt_0, rt_bz, sv_s, sv_o, ur_s, ur_e, ur_o, bz_T, bz_F, nat_eqF, Nat.reduceAdd, ↓q_X_kin, ↓gR_8_0 F, ↓gR_9_0 F, ↓gd_8 F, il_0, il_1, il_2, il_9, il_10, il_26, il_99, y_within]), rfl, (by simp (disch := first | decide | omega | (simp (disch := first | decide | omega) only [sv_s, sv_o, ur_s, ur_e, ur_o]; omega)) only [↓reduceIte, iv_add, iv_sub, iv_mul, iv_neg, iv_ltT, iv_ltF, iv_leT, iv_leF, iv_eqT, iv_eqF, iv_div, iv_mod, ↓bnI_s, ↓bnV_s, ↓bnJ_s, ↓bnR_s, rt_e, rt_0, rt_bz, sv_s, sv_o, ur_s, ur_e, ur_o, bz_T, bz_F, nat_eqF, Nat.reduceAdd, ↓q_M_kin, ↓gR_435_0 F, ↓lI_436 F, ↓lI_437 F, ↓lI_438 F, ↓lI_439 F, ↓lI_440 F, ↓lI_441 F, ↓lI_443 F, ↓lI_444 F, ↓lI_445 F, ↓lI_446 F, ↓lI_447 F, ↓lI_448 F, ↓lI_449 F, ↓lI_450 F, ↓sI_436 F, ↓sI_437 F, ↓sI_438 F, ↓sI_439 F, ↓sI_440 F, ↓sI_441 F, ↓sI_443 F, ↓sI_444 F, ↓sI_445 F, ↓sI_446 F, ↓sI_447 F, ↓sI_448 F, ↓sI_449 F, ↓sI_450 F, ↓gd_435 F, il_0, il_1, il_6, il_9, il_11, il_23, il_27, il_29, il_99, y_isIn]), rfl⟩
  · exact Pq.pc T g ⟨-1, V, J, V, J, (by simp (disch := first | decide | omega | (simp (disch := first | decide | omega) only [sv_s, sv_o, ur_s, ur_e, ur_o]; omega)) only [↓reduceIte, iv_add, iv_sub, iv_mul, iv_neg, iv_ltT, iv_ltF, iv_leT, iv_leF, iv_eqT, iv_eqF, iv_div, iv_mod, ↓bnI_s, ↓bnV_s, ↓bnJ_s, ↓bnR_s, rt_e, rt_0, rt_bz, sv_s, sv_o, ur_s, ur_e, ur_o, bz_T, bz_F, nat_eqF, Nat.reduceAdd, ↓q_X_kin, ↓gR_8_0 F, ↓gR_9_0 F, ↓gd_8 F, il_0, il_1, il_2, il_9, il_10, il_26, il_99, y_within]), rfl, (by simp (disch := first | decide | omega | (simp (disch := first | decide | omega) only [sv_s, sv_o, ur_s, ur_e, ur_o]; omega)) only [↓reduceIte, iv_add, iv_sub, iv_mul, iv_neg, iv_ltT, iv_ltF, iv_leT, iv_leF, iv_eqT, iv_eqF, iv_div, iv_mod, ↓bnI_s, ↓bnV_s, ↓bnJ_s, ↓bnR_s, rt_e, rt_0, rt_bz, sv_s, sv_o, ur_s, ur_e, ur_o, bz_T, bz_F, nat_eqF, Nat.reduceAdd, ↓q_M_kin, ↓gR_435_0 F, ↓lI_436 F, ↓lI_437 F, ↓lI_438 F, ↓lI_439 F, ↓lI_440 F, ↓lI_441 F, ↓lI_443 F, ↓lI_444 F, ↓lI_445 F, ↓lI_446 F, ↓lI_447 F, ↓lI_448 F, ↓lI_449 F, ↓lI_450 F, ↓sI_436 F, ↓sI_437 F, ↓sI_438 F, ↓sI_439 F, ↓sI_440 F, ↓sI_441 F, ↓sI_443 F, ↓sI_444 F, ↓sI_445 F, ↓sI_446 F, ↓sI_447 F, ↓sI_448 F, ↓sI_449 F, ↓sI_450 F, ↓gd_435 F, il_0, il_1, il_6, il_9, il_11, il_23, il_27, il_29, il_99, y_isIn]), rfl⟩
end
