/-! a step taken back, apart -/
section
variable {V V' W J : Vm} {z : Zz} {A A' : Int → Int} {c : Int}
theorem y_takeBack (F : Fix z) (h9 : 0 ≤ V 9 9 ∧ V 9 9 < 30) {c : Int} (hc : 0 ≤ c ∧ c < 30) (h10 : V 9 10 = c + 1) (hn : 0 ≤ V (sta V 9 c) 5 ∧ V (sta V 9 c) 5 ≤ 6) : ∃ V', cA m_House_takeBack [.ref 9] (em V J z) = some (.int (iv c), em V' J z) ∧ Rto (sv V 9 10 c) V' 10 (sta V 9 c) (V (sta V 9 c) 5) := by
  have T := T10 F
  have S := T30 F (j := ((V 9 9 + c) % 30).toNat) (by omega)
  have es : sta V 9 c = 30 + 6 * ((V 9 9 + c) % 30).toNat := rfl
  rw [es] at hn ⊢
  generalize hs : 30 + 6 * ((V 9 9 + c) % 30).toNat = s at *
  have hs0 : 30 ≤ s ∧ s ≤ 204 := by omega
  obtain ⟨W, e1, e2⟩ := y_returnTo (V := sv V 9 10 c) (J := J) T S (by omega) (n := V s 5) (by omega)
  have vs : (sv V 9 10 c) s 5 = V s 5 := by simp (disch := first | decide | omega | (simp (disch := first | decide | omega) only [sv_s, sv_o, ur_s, ur_e, ur_o]; omega)) only [↓reduceIte, iv_add, iv_sub, iv_mul, iv_neg, iv_ltT, iv_ltF, iv_leT, iv_leF, iv_eqT, iv_eqF, iv_div, iv_mod, ↓bnI_s, ↓bnV_s, ↓bnJ_s, ↓bnR_s, rt_e, rt_0, rt_bz, sv_s, sv_o, ur_s, ur_e, ur_o, bz_T, bz_F, nat_eqF, Nat.reduceAdd]
  have w9 : W 9 = sv V 9 10 c 9 := e2.1 9 (by omega) (by omega) (by omega) (by omega) (by omega)
  have st : cA m_House_stepAt [.ref 9, .int (iv ((V 9 9 + c) % 30))] (em (sv V 9 10 c) J z) = some (.ref s, em (sv V 9 10 c) J z) := by
    rw [y_stepAt F (by omega), hs]
  have s0 : (s = 0) = False := eq_false (by omega)
  have s3 : c + 1 - 1 = c := by omega
  refine ⟨W, ?_, e2⟩
  simp (disch := first | decide | omega | (simp (disch := first | decide | omega) only [sv_s, sv_o, ur_s, ur_e, ur_o]; omega)) only [↓reduceIte, iv_add, iv_sub, iv_mul, iv_neg, iv_ltT, iv_ltF, iv_leT, iv_leF, iv_eqT, iv_eqF, iv_div, iv_mod, ↓bnI_s, ↓bnV_s, ↓bnJ_s, ↓bnR_s, rt_e, rt_0, rt_bz, sv_s, sv_o, ur_s, ur_e, ur_o, bz_T, bz_F, nat_eqF, Nat.reduceAdd, ↓q_House_takeBack, ↓gI_9_10 F, ↓gI_9_9 F, ↓gR_9_0 F, ↓gT_5 T, ↓pI_9_10 F, ↓gd_9 F, il_0, il_1, il_2, il_5, il_7, il_9, il_10, il_18, il_30, ↓gI_9_10 F, ↓gI_9_9 F, ↓pI_9_10 F, ↓gR_9_0 F, ↓gT_5 S, h10, s3, st, s0, vs, e1, w9]
/-- what the steps show when the last is taken back -/
theorem Sts_undo (h : Sts V 9 A) (hc : 0 ≤ c ∧ c < 30) (h3 : A 3 = c + 1) (h0 : A 0 ≤ 6) (e9 : V' 9 9 = V 9 9) (e10 : V' 9 10 = c) (r : ∀ a, 30 ≤ a → a < 210 → V' a = V a) (u : A' = undoA A c) : Sts V' 9 A' := by
  have h0' := h
  obtain ⟨a1, a2, a3, a4⟩ := h
  have lc := Sts_le h0' 0 c (by omega) (by omega)
  obtain ⟨q1, q2, q3, q4⟩ := a4 c (by omega) (by omega)
  have sc : snp A c 0 = A (165 + 42 * c) := by unfold snp; rw [if_pos rfl]
  have hn : 0 ≤ A (165 + 42 * c) ∧ A 0 ≤ 6 := by rw [← sc]; omega
  have u3 : A' 3 = c := by rw [u]; exact undoA_3 hc hn
  have uo : ∀ k, k ≠ 3 → k < 7 ∨ (23 ≤ k ∧ k < 1425) → A' k = A k := fun k k3 hk => by rw [u]; exact undoA_o hc hn k3 hk
  refine ⟨e10.trans u3.symm, by omega, by rw [e9]; exact a3, fun i i0 i1 => ?_⟩
  rw [u3] at i1
  obtain ⟨b1, b2, b3, b4⟩ := a4 i i0 (by omega)
  have es : sta V' 9 i = sta V 9 i := by unfold sta; rw [e9]
  have sl := sta_lt (V := V) (H := 9) a3.1 i i0
  have snc := snp_c (A := A) (A' := A') (i := i) ⟨i0, by omega⟩ (fun k k0 k1 => uo k (by omega) (by omega))
  have nx : nxt A i = snp A (i + 1) := by unfold nxt; rw [if_pos (by omega)]
  rw [nx] at b2 b4
  have trs : Tr V' (sta V 9 i) (snp A i 0) (snp A' i) := Tr_c (by omega) (r _ (by omega) (by omega)) (r _ (by omega) (by omega)) (r _ (by omega) (by omega)) (r _ (by omega) (by omega)) (r _ (by omega) (by omega)) (fun k k0 k1 => snc k (by omega)) (fun k k0 k1 => snc k (by omega)) b3
  unfold Stq
  rw [es, snc 0 (Or.inl rfl), r _ (by omega) (by omega)]
  by_cases q : i + 1 < c
  · have nx' : nxt A' i = snp A' (i + 1) := by unfold nxt; rw [if_pos (by omega)]
    have snc2 := snp_c (A := A) (A' := A') (i := i + 1) ⟨by omega, by omega⟩ (fun k k0 k1 => uo k (by omega) (by omega))
    rw [nx', snc2 0 (by omega)]
    refine ⟨b1, b2, trs, fun k k0 k1 => ?_⟩
    rw [snc2 _ (by omega), snc2 _ (by omega), uo (29 + k) (by omega) (by omega)]
    exact b4 k k0 k1
  · have ei : i + 1 = c := by omega
    have nx' : nxt A' i = A' := by unfold nxt; rw [if_neg (by omega)]
    rw [ei] at b2 b4
    rw [nx', uo 0 (by omega) (by omega)]
    refine ⟨b1, by omega, trs, fun k k0 k1 => ?_⟩
    rw [uo (29 + k) (by omega) (by omega)]
    by_cases w : k < snp A c 0
    · have x := undoA_k (A := A) hc hn (k := k) (by omega) (by omega)
      rw [← u] at x
      rw [x.1, x.2]
      exact b4 k k0 w
    · have x := undoA_n (A := A) hc hn (k := k) (by omega)
      rw [← u] at x
      exact x
theorem Tr_undo (n : Kn V 10 A) (h : Sts V 9 A) (hc : 0 ≤ c ∧ c < 30) (h3 : A 3 = c + 1) (R : Rto (sv V 9 10 c) W 10 (sta V 9 c) (snp A c 0)) (u : A' = undoA A c) : Tr W 10 (A 0) A' := by
  have h0' := h
  obtain ⟨n1, n2, n3, n4⟩ := n
  obtain ⟨a1, a2, a3, a4⟩ := h
  have lc := Sts_le h0' 0 c (by omega) (by omega)
  obtain ⟨q1, q2, q3, q4⟩ := a4 c (by omega) (by omega)
  have nx : nxt A c = A := by unfold nxt; rw [if_neg (by omega)]
  rw [nx] at q2 q4
  have sc : snp A c 0 = A (165 + 42 * c) := by unfold snp; rw [if_pos rfl]
  have hn : 0 ≤ A (165 + 42 * c) ∧ A 0 ≤ 6 := by rw [← sc]; omega
  have sl := sta_lt (V := V) (H := 9) a3.1 c hc.1
  have uk := fun k (hk : 0 ≤ k ∧ k < snp A c 0) => undoA_k (A := A) hc hn (k := k) (by omega) (by omega)
  have un := fun k (hk : snp A c 0 ≤ k ∧ k < A 0) => undoA_n (A := A) hc hn (k := k) (by omega)
  have ul := fun k (hk : 7 ≤ k ∧ k < 11) => undoA_l (A := A) hc hn (k := k) hk
  have ub := fun k (hk : 1425 ≤ k ∧ k < 1450) => undoA_b (A := A) hc hn (k := k) hk
  rw [← u] at uk un ul ub
  generalize hs : sta V 9 c = s at *
  generalize hm : snp A c 0 = m at *
  obtain ⟨r1, r2, r3, r4, r5⟩ := R
  obtain ⟨c1, c2, c3, c4, c5, c6, c7⟩ := q3
  obtain ⟨d1, d2, d3, d4, d5, d6, d7⟩ := n4
  have sv0 : ∀ a, a ≠ 9 → (sv V 9 10 c) a = V a := fun a h => by simp (disch := first | decide | omega | (simp (disch := first | decide | omega) only [sv_s, sv_o, ur_s, ur_e, ur_o]; omega)) only [↓reduceIte, iv_add, iv_sub, iv_mul, iv_neg, iv_ltT, iv_ltF, iv_leT, iv_leF, iv_eqT, iv_eqF, iv_div, iv_mod, ↓bnI_s, ↓bnV_s, ↓bnJ_s, ↓bnR_s, rt_e, rt_0, rt_bz, sv_s, sv_o, ur_s, ur_e, ur_o, bz_T, bz_F, nat_eqF, Nat.reduceAdd]
  rw [sv0 s (by omega)] at r3
  have k2 : ∀ k, W 12 k = if 0 ≤ k ∧ k < m then V (s + 2) k else V 12 k := fun k => by rw [← sv0 (s + 2) (by omega), ← sv0 12 (by omega)]; exact (r4 k).1
  have k3 : ∀ k, W 13 k = if 0 ≤ k ∧ k < m then V (s + 3) k else V 13 k := fun k => by rw [← sv0 (s + 3) (by omega), ← sv0 13 (by omega)]; exact (r4 k).2.1
  have k4 : ∀ k, W 14 k = if 0 ≤ k ∧ k < m then V (s + 4) k else V 14 k := fun k => by rw [← sv0 (s + 4) (by omega), ← sv0 14 (by omega)]; exact (r4 k).2.2
  have k5 : ∀ k, 0 ≤ k → k < 25 → W 15 k = V (s + 5) k := fun k h1 h2 => by rw [← sv0 (s + 5) (by omega)]; exact r5 k h1 h2
  refine ⟨fun k k0 k1 => ?_, fun x x0 x1 => ?_, ?_, ?_, ?_, ?_, fun i i0 i1 => ?_⟩
  · unfold Tk
    rw [show (10 : Nat) + 2 = 12 from rfl, show (10 : Nat) + 3 = 13 from rfl, show (10 : Nat) + 4 = 14 from rfl, k2, k3, k4]
    by_cases w : k < m
    · obtain ⟨p1, p2, p3, p4, p5⟩ := c1 k k0 w
      rw [(uk k ⟨k0, w⟩).1, (uk k ⟨k0, w⟩).2, if_pos ⟨k0, w⟩, if_pos ⟨k0, w⟩, if_pos p5]
      exact ⟨p1, p2, p3, p4, by omega⟩
    · obtain ⟨p1, p2, p3, p4, p5⟩ := d1 k k0 k1
      have p1 : V 12 k = A (11 + k) := p1
      have p2 : V 13 k = A (17 + k) := p2
      have p3 : V 14 (A (17 + k)) = k := p3
      obtain ⟨e1, e2⟩ := q4 k (by omega) k1
      rw [(un k ⟨by omega, k1⟩).1, (un k ⟨by omega, k1⟩).2, if_neg (by omega), if_neg (by omega), if_neg (by omega)]
      rw [e2] at p2 p3
      rw [e1] at p1 p4
      exact ⟨p1, p2, p3, p4, by omega⟩
  · unfold Ts
    rw [show (10 : Nat) + 4 = 14 from rfl, k4]
    by_cases w : x < m
    · obtain ⟨p1, p2⟩ := c2 x x0 w
      rw [if_pos ⟨x0, w⟩, (uk _ p1).2]
      exact ⟨by omega, p2⟩
    · obtain ⟨e1, e2⟩ := q4 x (by omega) x1
      obtain ⟨p1, p2, p3, p4, p5⟩ := d1 x x0 x1
      have p3 : V 14 (A (17 + x)) = x := p3
      rw [e2] at p3
      rw [if_neg (by omega), p3, (un x ⟨by omega, x1⟩).2]
      exact ⟨by omega, rfl⟩
  · rw [r3.1, ul 10 (by omega)]; exact c3
  · rw [r3.2.1, ul 7 (by omega)]; exact c4
  · rw [r3.2.2.1, ul 8 (by omega)]; exact c5
  · rw [r3.2.2.2, ul 9 (by omega)]; exact c6
  · rw [ul 9 (by omega)] at i1
    rw [show (10 : Nat) + 5 = 15 from rfl, k5 i i0 (by omega), ub _ (by omega)]
    exact c7 i i0 i1
end
section
variable {V0 : Vm} {z : Zz}
theorem d_undo (F : Fix z) : Dd z V0 (fun h => cA m_X_undo [.ref 8] h) (fun h => cA m_M_undo [.ref 435] h) := by
  intro V J A m
  have ks := m.2.1
  have n := ks.1
  obtain ⟨s1, s2, s3, s4⟩ := ks.2
  by_cases h : A 3 = 0
  · refine ⟨-1, A, V, J, ?_, m, by omega, fun U K hU _ _ => ⟨U, K, ?_, hU, frM.rfl_⟩⟩
    · have T := T10 F
      have t : cA m_House_takeBack [.ref 9] (em V J z) = some (.int (iv (-1)), em V J z) := by
        simp (disch := first | decide | omega | (simp (disch := first | decide | omega) only [sv_s, sv_o, ur_s, ur_e, ur_o]; omega)) only [↓reduceIte, iv_add, iv_sub, iv_mul, iv_neg, iv_ltT, iv_ltF, iv_leT, iv_leF, iv_eqT, iv_eqF, iv_div, iv_mod, ↓bnI_s, ↓bnV_s, ↓bnJ_s, ↓bnR_s, rt_e, rt_0, rt_bz, sv_s, sv_o, ur_s, ur_e, ur_o, bz_T, bz_F, nat_eqF, Nat.reduceAdd, ↓q_House_takeBack, ↓gI_9_10 F, ↓gI_9_9 F, ↓gR_9_0 F, ↓gT_5 T, ↓pI_9_10 F, ↓gd_9 F, il_0, il_1, il_2, il_5, il_7, il_9, il_10, il_18, il_30, ↓gI_9_10 F, s1, h]
      simp (disch := first | decide | omega | (simp (disch := first | decide | omega) only [sv_s, sv_o, ur_s, ur_e, ur_o]; omega)) only [↓reduceIte, iv_add, iv_sub, iv_mul, iv_neg, iv_ltT, iv_ltF, iv_leT, iv_leF, iv_eqT, iv_eqF, iv_div, iv_mod, ↓bnI_s, ↓bnV_s, ↓bnJ_s, ↓bnR_s, rt_e, rt_0, rt_bz, sv_s, sv_o, ur_s, ur_e, ur_o, bz_T, bz_F, nat_eqF, Nat.reduceAdd, ↓q_X_undo, ↓gR_8_0 F, ↓gd_8 F, il_0, il_1, il_10, il_26, t]
    · have u0 : U 436 3 = 0 := by rw [hU]; exact h
      simp (disch := first | decide | omega | (simp (disch := first | decide | omega) only [sv_s, sv_o, ur_s, ur_e, ur_o]; omega)) only [↓reduceIte, iv_add, iv_sub, iv_mul, iv_neg, iv_ltT, iv_ltF, iv_leT, iv_leF, iv_eqT, iv_eqF, iv_div, iv_mod, ↓bnI_s, ↓bnV_s, ↓bnJ_s, ↓bnR_s, rt_e, rt_0, rt_bz, sv_s, sv_o, ur_s, ur_e, ur_o, bz_T, bz_F, nat_eqF, Nat.reduceAdd, ↓q_M_undo, ↓gR_435_0 F, ↓lI_436 F, ↓lI_437 F, ↓lI_438 F, ↓lI_439 F, ↓lI_440 F, ↓lI_441 F, ↓lI_443 F, ↓lI_444 F, ↓lI_445 F, ↓lI_446 F, ↓lI_447 F, ↓lI_448 F, ↓lI_449 F, ↓lI_450 F, ↓sI_436 F, ↓sI_437 F, ↓sI_438 F, ↓sI_439 F, ↓sI_440 F, ↓sI_441 F, ↓sI_443 F, ↓sI_444 F, ↓sI_445 F, ↓sI_446 F, ↓sI_447 F, ↓sI_448 F, ↓sI_449 F, ↓sI_450 F, ↓gd_435 F, il_0, il_1, il_3, il_11, il_27, il_37, il_42, il_165, u0]
  · obtain ⟨c, hc⟩ : ∃ c, c = A 3 - 1 := ⟨_, rfl⟩
    have h3 : A 3 = c + 1 := by omega
    have hc0 : 0 ≤ c ∧ c < 30 := by omega
    obtain ⟨q1, q2, q3, q4⟩ := s4 c (by omega) (by omega)
    have lc := Sts_le ks.2 0 c (by omega) (by omega)
    have sc : snp A c 0 = A (165 + 42 * c) := by unfold snp; rw [if_pos rfl]
    obtain ⟨W, e1, R⟩ := y_takeBack (V := V) (J := J) F s3 hc0 (by omega) (by rw [q1]; omega)
    rw [q1] at R
    have sl := sta_lt (V := V) (H := 9) s3.1 c hc0.1
    have hn : 0 ≤ A (165 + 42 * c) ∧ A 0 ≤ 6 := by rw [← sc]; exact ⟨by omega, n.2.1.2⟩
    have wr : ∀ a, a ≠ 9 → ¬ (10 ≤ a ∧ a < 16) → W a = V a := fun a h1 h2 => by
      rw [R.1 a (by omega) (by omega) (by omega) (by omega) (by omega)]; simp (disch := first | decide | omega | (simp (disch := first | decide | omega) only [sv_s, sv_o, ur_s, ur_e, ur_o]; omega)) only [↓reduceIte, iv_add, iv_sub, iv_mul, iv_neg, iv_ltT, iv_ltF, iv_leT, iv_leF, iv_eqT, iv_eqF, iv_div, iv_mod, ↓bnI_s, ↓bnV_s, ↓bnJ_s, ↓bnR_s, rt_e, rt_0, rt_bz, sv_s, sv_o, ur_s, ur_e, ur_o, bz_T, bz_F, nat_eqF, Nat.reduceAdd]
    have w9 : W 9 = ur (V 9) 10 c := by
      rw [R.1 9 (by omega) (by omega) (by omega) (by omega) (by omega)]; simp (disch := first | decide | omega | (simp (disch := first | decide | omega) only [sv_s, sv_o, ur_s, ur_e, ur_o]; omega)) only [↓reduceIte, iv_add, iv_sub, iv_mul, iv_neg, iv_ltT, iv_ltF, iv_leT, iv_leF, iv_eqT, iv_eqF, iv_div, iv_mod, ↓bnI_s, ↓bnV_s, ↓bnJ_s, ↓bnR_s, rt_e, rt_0, rt_bz, sv_s, sv_o, ur_s, ur_e, ur_o, bz_T, bz_F, nat_eqF, Nat.reduceAdd]
    have w11 : W 11 = V 11 := by
      rw [R.1 11 (by omega) (by omega) (by omega) (by omega) (by omega)]; simp (disch := first | decide | omega | (simp (disch := first | decide | omega) only [sv_s, sv_o, ur_s, ur_e, ur_o]; omega)) only [↓reduceIte, iv_add, iv_sub, iv_mul, iv_neg, iv_ltT, iv_ltF, iv_leT, iv_leF, iv_eqT, iv_eqF, iv_div, iv_mod, ↓bnI_s, ↓bnV_s, ↓bnJ_s, ↓bnR_s, rt_e, rt_0, rt_bz, sv_s, sv_o, ur_s, ur_e, ur_o, bz_T, bz_F, nat_eqF, Nat.reduceAdd]
    have w105 : W 10 5 = V 10 5 := by
      rw [R.2.1 5 (by omega) (by omega) (by omega) (by omega)]; simp (disch := first | decide | omega | (simp (disch := first | decide | omega) only [sv_s, sv_o, ur_s, ur_e, ur_o]; omega)) only [↓reduceIte, iv_add, iv_sub, iv_mul, iv_neg, iv_ltT, iv_ltF, iv_leT, iv_leF, iv_eqT, iv_eqF, iv_div, iv_mod, ↓bnI_s, ↓bnV_s, ↓bnJ_s, ↓bnR_s, rt_e, rt_0, rt_bz, sv_s, sv_o, ur_s, ur_e, ur_o, bz_T, bz_F, nat_eqF, Nat.reduceAdd]
    have uo := fun k (k3 : k ≠ 3) (hk : k < 7 ∨ (23 ≤ k ∧ k < 1425)) => undoA_o (A := A) hc0 hn k3 hk
    have u0 := uo 0 (by omega) (by omega)
    refine ⟨c, undoA A c, W, J, ?_, ⟨m.1.tr fun a k _ h1 h2 h3 => ?_, ⟨⟨?_, ?_, fun k k0 k1 => ?_, ?_⟩, ?_⟩, m.2.2.tr ⟨fun k hk => uo k (by omega) (by omega), by rw [u0]; exact Int.le_refl _⟩⟩, by omega, fun U K hU _ _ => ?_⟩
    · have T := T10 F
      simp (disch := first | decide | omega | (simp (disch := first | decide | omega) only [sv_s, sv_o, ur_s, ur_e, ur_o]; omega)) only [↓reduceIte, iv_add, iv_sub, iv_mul, iv_neg, iv_ltT, iv_ltF, iv_leT, iv_leF, iv_eqT, iv_eqF, iv_div, iv_mod, ↓bnI_s, ↓bnV_s, ↓bnJ_s, ↓bnR_s, rt_e, rt_0, rt_bz, sv_s, sv_o, ur_s, ur_e, ur_o, bz_T, bz_F, nat_eqF, Nat.reduceAdd, ↓q_X_undo, ↓gR_8_0 F, ↓gd_8 F, il_0, il_1, il_10, il_26, e1]
    · by_cases q : a = 9
      · subst q
        rw [w9, ur_o (by omega)]
      · rw [wr a q h1]
    · rw [u0]; exact w105.trans n.1
    · rw [u0]; exact n.2.1
    · rw [u0] at k1
      have k6 := n.2.1
      rw [uo (23 + k) (by omega) (by omega), uo (29 + k) (by omega) (by omega), show (10 : Nat) + 1 = 11 from rfl, w11]
      exact n.2.2.1 k k0 k1
    · rw [u0]
      exact Tr_undo n ks.2 hc0 h3 R rfl
    · exact Sts_undo ks.2 hc0 h3 n.2.1.2 (by rw [w9, ur_o (by decide)]) (by rw [w9, ur_s]) (fun a h1 h2 => wr a (by omega) (by omega)) rfl
    · obtain ⟨U', f1, f2, f3⟩ := y_M_undo (V := U) (J := K) F hc0 (by rw [hU]; exact h3) (by rw [hU, ← sc]; omega)
      rw [hU] at f3
      exact ⟨U', K, f1, f3, fun a k _ h => by rw [f2 a h]⟩
end
