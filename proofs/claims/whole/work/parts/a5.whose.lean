/-! WHOSE LAW IT WAS -/
section
variable {V V0 J U K : Vm} {A : Int → Int} {z : Zz} {I0 : Nat → Nat → Int32} {q : Nat} {i : Int} {rv bv : (Int → Int) → Int → Int}
def Agr (rv : (Int → Int) → Int → Int) (A : Int → Int) (j : Int) : Prop := ∀ l, j ≤ l → l < A 6 → rv A (A (149 + 2 * l)) = A (150 + 2 * l)
theorem Agr.s {j : Int} (e : rv A (A (149 + 2 * j)) = A (150 + 2 * j)) (h : Agr rv A (j + 1)) : Agr rv A j := fun l l0 l1 => by
  by_cases q : l = j
  · rw [q]; exact e
  · exact h l (by omega) l1
theorem y_agr (F : Fix z) (gk : Kn V0 10 A) (td : Tld V0 9 A) (L : Lw z V0 q i rv bv) : ∀ (m : Nat) (V : Vm) (j : Int), (∀ a, a ≠ 418 → V a = V0 a) → 0 ≤ j → j + m = A 6 → ∃ V' b, rX m_X_agrees m_X_agrees 2 [.ref 8, .ref q, .int (iv j), dd] [] (em V J z) = some (.int (iv b), em V' J z) ∧ (∀ a, a ≠ 418 → V' a = V0 a) ∧ ((b = 1 ∧ Agr rv A j) ∨ (b = 0 ∧ ¬ Agr rv A j)) := by
  obtain ⟨t1, t2, t3⟩ := td
  have t1 : V0 27 2 = A 6 := t1
  intro m
  induction m with
  | zero =>
    intro V j o j0 hj
    have v2 : V 27 2 = A 6 := by rw [o 27 (by decide)]; exact t1
    exact ⟨V, 1, by (rw [q_X_agrees_2]; simp (disch := first | decide | omega | (simp (disch := first | decide | omega) only [sv_s, sv_o, ur_s, ur_e, ur_o]; omega)) only [↓reduceIte, iv_add, iv_sub, iv_mul, iv_neg, iv_ltT, iv_ltF, iv_leT, iv_leF, iv_eqT, iv_eqF, iv_div, iv_mod, ↓bnI_s, ↓bnV_s, ↓bnJ_s, ↓bnR_s, rt_e, rt_0, rt_bz, sv_s, sv_o, ur_s, ur_e, ur_o, bz_T, bz_F, nat_eqF, Nat.reduceAdd, ↓gR_8_0 F, ↓gR_9_8 F, ↓gI_21_2 F, ↓gI_24_2 F, ↓gI_27_2 F, ↓gR_21_0 F, ↓gR_24_0 F, ↓gR_27_0 F, ↓gR_8_3 F, ↓gR_9_0 F, ↓gR_21_1 F, ↓gR_24_1 F, ↓gR_27_1 F, il_0, il_1, il_2, il_3, il_8, il_10, v2]), o, Or.inl ⟨rfl, fun l l0 l1 => absurd l1 (by omega)⟩⟩
  | succ m ih =>
    intro V j o j0 hj
    have v2 : V 27 2 = A 6 := by rw [o 27 (by decide)]; exact t1
    obtain ⟨p1, p2, p3, p4⟩ := t3 j j0 (by omega)
    have p1 : V0 28 j = A (149 + 2 * j) := p1
    have p2 : V0 29 j = A (150 + 2 * j) := p2
    obtain ⟨k, hk⟩ : ∃ k, k = A (149 + 2 * j) := ⟨_, rfl⟩
    obtain ⟨n, hn⟩ : ∃ n, n = A (150 + 2 * j) := ⟨_, rfl⟩
    rw [← hk] at p1 p3
    rw [← hn] at p2 p4
    have v8 : V 28 j = k := by rw [o 28 (by decide)]; exact p1
    obtain ⟨r1, _, c1, c2⟩ := L A k ⟨V0, 10, gk⟩ p3.1 p3.2
    have gV : Kn V 10 A := Kn_c (o _ (by decide)) (o _ (by decide)) (o _ (by decide)) (o _ (by decide)) (o _ (by decide)) (o _ (by decide)) rfl (fun _ _ _ => rfl) (fun _ _ _ => rfl) gk
    obtain ⟨⟨V1, a1, a2⟩, _⟩ := c1 V J 10 (fun a ha => o a (by omega)) (T10 F) (by omega) gV
    have o1 : ∀ a, a ≠ 418 → V1 a = V0 a := fun a ha => (a2 a ha).trans (o a ha)
    have v9 : V1 29 j = n := by rw [o1 29 (by decide)]; exact p2
    by_cases e : rv A k = n
    · obtain ⟨V', b, i1, i2, i3⟩ := ih V1 (j + 1) o1 (by omega) (by omega)
      refine ⟨V', b, ?_, i2, ?_⟩
      · rw [← i1]
        rw [e] at a1
        (rw [q_X_agrees_2]; simp (disch := first | decide | omega | (simp (disch := first | decide | omega) only [sv_s, sv_o, ur_s, ur_e, ur_o]; omega)) only [↓reduceIte, iv_add, iv_sub, iv_mul, iv_neg, iv_ltT, iv_ltF, iv_leT, iv_leF, iv_eqT, iv_eqF, iv_div, iv_mod, ↓bnI_s, ↓bnV_s, ↓bnJ_s, ↓bnR_s, rt_e, rt_0, rt_bz, sv_s, sv_o, ur_s, ur_e, ur_o, bz_T, bz_F, nat_eqF, Nat.reduceAdd, ↓gR_8_0 F, ↓gR_9_8 F, ↓gI_21_2 F, ↓gI_24_2 F, ↓gI_27_2 F, ↓gR_21_0 F, ↓gR_24_0 F, ↓gR_27_0 F, ↓gR_8_3 F, ↓gR_9_0 F, ↓gR_21_1 F, ↓gR_24_1 F, ↓gR_27_1 F, il_0, il_1, il_2, il_3, il_8, il_10, v2, y_get (s_28 F) (by decide), y_get (s_29 F) (by decide), rd_in, v8, v9, a1])
      · rcases i3 with ⟨i3, i4⟩ | ⟨i3, i4⟩
        · exact Or.inl ⟨i3, Agr.s (by rw [← hk, ← hn]; exact e) i4⟩
        · exact Or.inr ⟨i3, fun h => i4 fun l l0 l1 => h l (by omega) l1⟩
    · refine ⟨V1, 0, ?_, o1, Or.inr ⟨rfl, fun h => e ?_⟩⟩
      · (rw [q_X_agrees_2]; simp (disch := first | decide | omega | (simp (disch := first | decide | omega) only [sv_s, sv_o, ur_s, ur_e, ur_o]; omega)) only [↓reduceIte, iv_add, iv_sub, iv_mul, iv_neg, iv_ltT, iv_ltF, iv_leT, iv_leF, iv_eqT, iv_eqF, iv_div, iv_mod, ↓bnI_s, ↓bnV_s, ↓bnJ_s, ↓bnR_s, rt_e, rt_0, rt_bz, sv_s, sv_o, ur_s, ur_e, ur_o, bz_T, bz_F, nat_eqF, Nat.reduceAdd, ↓gR_8_0 F, ↓gR_9_8 F, ↓gI_21_2 F, ↓gI_24_2 F, ↓gI_27_2 F, ↓gR_21_0 F, ↓gR_24_0 F, ↓gR_27_0 F, ↓gR_8_3 F, ↓gR_9_0 F, ↓gR_21_1 F, ↓gR_24_1 F, ↓gR_27_1 F, il_0, il_1, il_2, il_3, il_8, il_10, v2, y_get (s_28 F) (by decide), y_get (s_29 F) (by decide), rd_in, v8, v9, a1])
      · have := h j (by omega) (by omega)
        rw [← hk, ← hn] at this
        exact this
theorem y_M21z (F : Fix z) (hU : U 436 = A) (h6 : 0 ≤ A 6 ∧ A 6 ≤ 8) {x : Int32} (hi : 0 ≤ i ∧ i ≤ 3) : ∀ (m : Nat) (j : Int), 0 ≤ j → j + m = A 6 → rX m_M_whose m_M_whose 21 [.ref 435, .int x, .int (iv i), .int (iv 0), .int (iv (149 + 2 * j))] [] (em U K z) = rX m_M_whose m_M_whose 4 [.ref 435, .int x, .int (iv (i + 1)), dd, dd] [] (em U K z) := by
  have u6 : U 436 6 = A 6 := by rw [hU]
  have x0 : x ||| iv 0 = x := by rw [← il_0]; exact Int32.or_zero
  intro m
  induction m with
  | zero =>
    intro j j0 hj
    (rw [q_M_whose_21]; simp (disch := first | decide | omega | (simp (disch := first | decide | omega) only [sv_s, sv_o, ur_s, ur_e, ur_o]; omega)) only [↓reduceIte, iv_add, iv_sub, iv_mul, iv_neg, iv_ltT, iv_ltF, iv_leT, iv_leF, iv_eqT, iv_eqF, iv_div, iv_mod, ↓bnI_s, ↓bnV_s, ↓bnJ_s, ↓bnR_s, rt_e, rt_0, rt_bz, sv_s, sv_o, ur_s, ur_e, ur_o, bz_T, bz_F, nat_eqF, Nat.reduceAdd, ↓gR_435_0 F, ↓lI_436 F, ↓lI_437 F, ↓lI_438 F, ↓lI_439 F, ↓lI_440 F, ↓lI_441 F, ↓lI_443 F, ↓lI_444 F, ↓lI_445 F, ↓lI_446 F, ↓lI_447 F, ↓lI_448 F, ↓lI_449 F, ↓lI_450 F, il_0, il_1, il_2, il_4, il_6, il_11, il_21, il_31, il_149, u6, x0])
  | succ m ih =>
    intro j j0 hj
    rw [← ih (j + 1) (by omega) (by omega)]
    have e : 149 + 2 * j + 2 = 149 + 2 * (j + 1) := by omega
    conv => lhs; rw [q_M_whose_21]
    simp (disch := first | decide | omega | (simp (disch := first | decide | omega) only [sv_s, sv_o, ur_s, ur_e, ur_o]; omega)) only [↓reduceIte, iv_add, iv_sub, iv_mul, iv_neg, iv_ltT, iv_ltF, iv_leT, iv_leF, iv_eqT, iv_eqF, iv_div, iv_mod, ↓bnI_s, ↓bnV_s, ↓bnJ_s, ↓bnR_s, rt_e, rt_0, rt_bz, sv_s, sv_o, ur_s, ur_e, ur_o, bz_T, bz_F, nat_eqF, Nat.reduceAdd, ↓gR_435_0 F, ↓lI_436 F, ↓lI_437 F, ↓lI_438 F, ↓lI_439 F, ↓lI_440 F, ↓lI_441 F, ↓lI_443 F, ↓lI_444 F, ↓lI_445 F, ↓lI_446 F, ↓lI_447 F, ↓lI_448 F, ↓lI_449 F, ↓lI_450 F, il_0, il_1, il_2, il_4, il_6, il_11, il_21, il_31, il_149, u6, e]
theorem y_M21 (F : Fix z) (gk : Kn V0 10 A) (td : Tld V0 9 A) (L : Lw z V0 q i rv bv) (hi : 0 ≤ i ∧ i ≤ 3) {x : Int32} : ∀ (m : Nat) (U K : Vm) (j : Int), U 436 = A → U 438 = V0 438 → 0 ≤ j → j + m = A 6 → ∃ U' K', ((Agr rv A j ∧ rX m_M_whose m_M_whose 21 [.ref 435, .int x, .int (iv i), .int (iv 1), .int (iv (149 + 2 * j))] [] (em U K z) = rX m_M_whose m_M_whose 4 [.ref 435, .int (x ||| (iv 1 <<< (iv i &&& iv 31))), .int (iv (i + 1)), dd, dd] [] (em U' K' z)) ∨ (¬ Agr rv A j ∧ rX m_M_whose m_M_whose 21 [.ref 435, .int x, .int (iv i), .int (iv 1), .int (iv (149 + 2 * j))] [] (em U K z) = rX m_M_whose m_M_whose 4 [.ref 435, .int x, .int (iv (i + 1)), dd, dd] [] (em U' K' z))) ∧ frM U U' ∧ U' 436 = A := by
  obtain ⟨t1, t2, t3⟩ := td
  intro m
  induction m with
  | zero =>
    intro U K j hU h8 j0 hj
    have u6 : U 436 6 = A 6 := by rw [hU]
    exact ⟨U, K, Or.inl ⟨fun l l0 l1 => absurd l1 (by omega), by (rw [q_M_whose_21]; simp (disch := first | decide | omega | (simp (disch := first | decide | omega) only [sv_s, sv_o, ur_s, ur_e, ur_o]; omega)) only [↓reduceIte, iv_add, iv_sub, iv_mul, iv_neg, iv_ltT, iv_ltF, iv_leT, iv_leF, iv_eqT, iv_eqF, iv_div, iv_mod, ↓bnI_s, ↓bnV_s, ↓bnJ_s, ↓bnR_s, rt_e, rt_0, rt_bz, sv_s, sv_o, ur_s, ur_e, ur_o, bz_T, bz_F, nat_eqF, Nat.reduceAdd, ↓gR_435_0 F, ↓lI_436 F, ↓lI_437 F, ↓lI_438 F, ↓lI_439 F, ↓lI_440 F, ↓lI_441 F, ↓lI_443 F, ↓lI_444 F, ↓lI_445 F, ↓lI_446 F, ↓lI_447 F, ↓lI_448 F, ↓lI_449 F, ↓lI_450 F, il_0, il_1, il_2, il_4, il_6, il_11, il_21, il_31, il_149, u6])⟩, frM.rfl_, hU⟩
  | succ m ih =>
    intro U K j hU h8 j0 hj
    have u6 : U 436 6 = A 6 := by rw [hU]
    obtain ⟨p1, p2, p3, p4⟩ := t3 j j0 (by omega)
    obtain ⟨k, hk⟩ : ∃ k, k = A (149 + 2 * j) := ⟨_, rfl⟩
    obtain ⟨n, hn⟩ : ∃ n, n = A (150 + 2 * j) := ⟨_, rfl⟩
    rw [← hk] at p3
    rw [← hn] at p4
    obtain ⟨r1, _, c1, c2⟩ := L A k ⟨V0, 10, gk⟩ p3.1 p3.2
    obtain ⟨⟨U1, K1, d1, d2, d3, d4⟩, _⟩ := c2 U K 1 A (RW.of hU) h8
    have uk : U 436 (149 + 2 * j) = k := by rw [hU, hk]
    have un : U1 436 (149 + 2 * j + 1) = n := by rw [d3, hU, hn]; congr 1; omega
    have u1 : U1 436 = A := d3.trans hU
    have e2 : 149 + 2 * j + 2 = 149 + 2 * (j + 1) := by omega
    have u81 : U1 438 = V0 438 := (funext fun a => d2 438 a (Or.inl (scr_F (by omega))) (by decide)).trans h8
    by_cases e : rv A k = n
    · obtain ⟨U', K', i1, i2, i3⟩ := ih U1 K1 (j + 1) u1 u81 (by omega) (by omega)
      have st : rX m_M_whose m_M_whose 21 [.ref 435, .int x, .int (iv i), .int (iv 1), .int (iv (149 + 2 * j))] [] (em U K z) = rX m_M_whose m_M_whose 21 [.ref 435, .int x, .int (iv i), .int (iv 1), .int (iv (149 + 2 * (j + 1)))] [] (em U1 K1 z) := by
        rw [e] at d1
        conv => lhs; rw [q_M_whose_21]
        simp (disch := first | decide | omega | (simp (disch := first | decide | omega) only [sv_s, sv_o, ur_s, ur_e, ur_o]; omega)) only [↓reduceIte, iv_add, iv_sub, iv_mul, iv_neg, iv_ltT, iv_ltF, iv_leT, iv_leF, iv_eqT, iv_eqF, iv_div, iv_mod, ↓bnI_s, ↓bnV_s, ↓bnJ_s, ↓bnR_s, rt_e, rt_0, rt_bz, sv_s, sv_o, ur_s, ur_e, ur_o, bz_T, bz_F, nat_eqF, Nat.reduceAdd, ↓gR_435_0 F, ↓lI_436 F, ↓lI_437 F, ↓lI_438 F, ↓lI_439 F, ↓lI_440 F, ↓lI_441 F, ↓lI_443 F, ↓lI_444 F, ↓lI_445 F, ↓lI_446 F, ↓lI_447 F, ↓lI_448 F, ↓lI_449 F, ↓lI_450 F, il_0, il_1, il_2, il_4, il_6, il_11, il_21, il_31, il_149, u6, uk, un, d1, e2]
      refine ⟨U', K', ?_, d2.tr i2, i3⟩
      rw [st]
      rcases i1 with ⟨i1, i4⟩ | ⟨i1, i4⟩
      · exact Or.inl ⟨Agr.s (by rw [← hk, ← hn]; exact e) i1, i4⟩
      · exact Or.inr ⟨fun h => i1 fun l l0 l1 => h l (by omega) l1, i4⟩
    · have zz := y_M21z (U := U1) (K := K1) (A := A) (x := x) F u1 t2 hi m (j + 1) (by omega) (by omega)
      refine ⟨U1, K1, Or.inr ⟨fun h => e ?_, ?_⟩, d2, u1⟩
      · have := h j (by omega) (by omega)
        rw [← hk, ← hn] at this
        exact this
      · rw [← zz]
        conv => lhs; rw [q_M_whose_21]
        simp (disch := first | decide | omega | (simp (disch := first | decide | omega) only [sv_s, sv_o, ur_s, ur_e, ur_o]; omega)) only [↓reduceIte, iv_add, iv_sub, iv_mul, iv_neg, iv_ltT, iv_ltF, iv_leT, iv_leF, iv_eqT, iv_eqF, iv_div, iv_mod, ↓bnI_s, ↓bnV_s, ↓bnJ_s, ↓bnR_s, rt_e, rt_0, rt_bz, sv_s, sv_o, ur_s, ur_e, ur_o, bz_T, bz_F, nat_eqF, Nat.reduceAdd, ↓gR_435_0 F, ↓lI_436 F, ↓lI_437 F, ↓lI_438 F, ↓lI_439 F, ↓lI_440 F, ↓lI_441 F, ↓lI_443 F, ↓lI_444 F, ↓lI_445 F, ↓lI_446 F, ↓lI_447 F, ↓lI_448 F, ↓lI_449 F, ↓lI_450 F, il_0, il_1, il_2, il_4, il_6, il_11, il_21, il_31, il_149, u6, uk, un, d1, e2]
theorem y_whose (F : Fix z) (gk : Kn V0 10 A) (td : Tld V0 9 A) (h11 : V0 9 11 = A 1) (h4 : 0 ≤ A 1 ∧ A 1 ≤ 4) (tx : ∀ i, 0 ≤ i → i < A 1 → TXR V0 z (z.1 17 i.toNat) i) : ∀ (m : Nat) (V : Vm) (i : Int) (x : Int32), (∀ a, a ≠ 418 → V a = V0 a) → 0 ≤ i → i + m = A 1 → ∃ w V', rX m_X_whose m_X_whose 4 [.ref 8, .int x, .int (iv i)] [] (em V J z) = some (.int w, em V' J z) ∧ (∀ a, a ≠ 418 → V' a = V0 a) ∧ ∀ U K, U 436 = A → U 438 = V0 438 → ∃ U' K', rX m_M_whose m_M_whose 4 [.ref 435, .int x, .int (iv i), dd, dd] [] (em U K z) = some (.int w, em U' K' z) ∧ frM U U' ∧ U' 436 = A := by
  intro m
  induction m with
  | zero =>
    intro V i x o i0 hi
    have v1 : V 9 11 = A 1 := by rw [o 9 (by decide)]; exact h11
    refine ⟨x, V, by (rw [q_X_whose_4]; simp (disch := first | decide | omega | (simp (disch := first | decide | omega) only [sv_s, sv_o, ur_s, ur_e, ur_o]; omega)) only [↓reduceIte, iv_add, iv_sub, iv_mul, iv_neg, iv_ltT, iv_ltF, iv_leT, iv_leF, iv_eqT, iv_eqF, iv_div, iv_mod, ↓bnI_s, ↓bnV_s, ↓bnJ_s, ↓bnR_s, rt_e, rt_0, rt_bz, sv_s, sv_o, ur_s, ur_e, ur_o, bz_T, bz_F, nat_eqF, Nat.reduceAdd, ↓gR_8_0 F, ↓gI_9_11 F, il_0, il_1, il_2, il_4, il_10, il_11, il_31, v1]), o, fun U K hU h8 => ⟨U, K, ?_, frM.rfl_, hU⟩⟩
    have u1 : U 436 1 = A 1 := by rw [hU]
    (rw [q_M_whose_4]; simp (disch := first | decide | omega | (simp (disch := first | decide | omega) only [sv_s, sv_o, ur_s, ur_e, ur_o]; omega)) only [↓reduceIte, iv_add, iv_sub, iv_mul, iv_neg, iv_ltT, iv_ltF, iv_leT, iv_leF, iv_eqT, iv_eqF, iv_div, iv_mod, ↓bnI_s, ↓bnV_s, ↓bnJ_s, ↓bnR_s, rt_e, rt_0, rt_bz, sv_s, sv_o, ur_s, ur_e, ur_o, bz_T, bz_F, nat_eqF, Nat.reduceAdd, ↓gR_435_0 F, ↓lI_436 F, ↓lI_437 F, ↓lI_438 F, ↓lI_439 F, ↓lI_440 F, ↓lI_441 F, ↓lI_443 F, ↓lI_444 F, ↓lI_445 F, ↓lI_446 F, ↓lI_447 F, ↓lI_448 F, ↓lI_449 F, ↓lI_450 F, il_0, il_1, il_4, il_11, il_21, il_149, u1])
  | succ m ih =>
    intro V i x o i0 hi
    have v1 : V 9 11 = A 1 := by rw [o 9 (by decide)]; exact h11
    obtain ⟨rv, bv, L⟩ := Lw_of F (tx i i0 (by omega)) (by omega)
    have e1 := y_textOf1 (V := V) (J := J) F (i := i) (by omega)
    have td' := td.2.1
    obtain ⟨V1, b, a1, a2, a3⟩ := y_agr (J := J) F gk td L (A 6).toNat V 0 o (by omega) (by omega)
    have ag : cA m_X_agrees [.ref 8, .ref (z.1 17 i.toNat)] (em V J z) = some (.int (iv b), em V1 J z) := by
      rw [← a1]
      simp (disch := first | decide | omega | (simp (disch := first | decide | omega) only [sv_s, sv_o, ur_s, ur_e, ur_o]; omega)) only [↓reduceIte, iv_add, iv_sub, iv_mul, iv_neg, iv_ltT, iv_ltF, iv_leT, iv_leF, iv_eqT, iv_eqF, iv_div, iv_mod, ↓bnI_s, ↓bnV_s, ↓bnJ_s, ↓bnR_s, rt_e, rt_0, rt_bz, sv_s, sv_o, ur_s, ur_e, ur_o, bz_T, bz_F, nat_eqF, Nat.reduceAdd, ↓q_X_agrees, ↓gd_8 F, il_0, il_1, il_2, il_26]
    have go : ∀ y : Int32, ((b = 1 ∧ y = x ||| (iv 1 <<< (iv i &&& iv 31))) ∨ (b = 0 ∧ y = x)) → rX m_X_whose m_X_whose 4 [.ref 8, .int x, .int (iv i)] [] (em V J z) = rX m_X_whose m_X_whose 4 [.ref 8, .int y, .int (iv (i + 1))] [] (em V1 J z) := by
      intro y hy
      conv => lhs; rw [q_X_whose_4]
      rcases hy with ⟨hb, hy⟩ | ⟨hb, hy⟩
      · rw [hb] at ag
        rw [hy]
        simp (disch := first | decide | omega | (simp (disch := first | decide | omega) only [sv_s, sv_o, ur_s, ur_e, ur_o]; omega)) only [↓reduceIte, iv_add, iv_sub, iv_mul, iv_neg, iv_ltT, iv_ltF, iv_leT, iv_leF, iv_eqT, iv_eqF, iv_div, iv_mod, ↓bnI_s, ↓bnV_s, ↓bnJ_s, ↓bnR_s, rt_e, rt_0, rt_bz, sv_s, sv_o, ur_s, ur_e, ur_o, bz_T, bz_F, nat_eqF, Nat.reduceAdd, ↓gR_8_0 F, ↓gI_9_11 F, il_0, il_1, il_2, il_4, il_10, il_11, il_31, v1, e1, ag]
      · rw [hb] at ag
        rw [hy]
        simp (disch := first | decide | omega | (simp (disch := first | decide | omega) only [sv_s, sv_o, ur_s, ur_e, ur_o]; omega)) only [↓reduceIte, iv_add, iv_sub, iv_mul, iv_neg, iv_ltT, iv_ltF, iv_leT, iv_leF, iv_eqT, iv_eqF, iv_div, iv_mod, ↓bnI_s, ↓bnV_s, ↓bnJ_s, ↓bnR_s, rt_e, rt_0, rt_bz, sv_s, sv_o, ur_s, ur_e, ur_o, bz_T, bz_F, nat_eqF, Nat.reduceAdd, ↓gR_8_0 F, ↓gI_9_11 F, il_0, il_1, il_2, il_4, il_10, il_11, il_31, v1, e1, ag]
    have mo : ∀ U K, U 436 = A → U 438 = V0 438 → ∃ U' K' y, ((b = 1 ∧ y = x ||| (iv 1 <<< (iv i &&& iv 31))) ∨ (b = 0 ∧ y = x)) ∧ rX m_M_whose m_M_whose 4 [.ref 435, .int x, .int (iv i), dd, dd] [] (em U K z) = rX m_M_whose m_M_whose 4 [.ref 435, .int y, .int (iv (i + 1)), dd, dd] [] (em U' K' z) ∧ frM U U' ∧ U' 436 = A := by
      intro U K hU h8
      have u1 : U 436 1 = A 1 := by rw [hU]
      obtain ⟨U', K', c1, c2, c3⟩ := y_M21 (x := x) F gk td L (by omega) (A 6).toNat U K 0 hU h8 (by omega) (by omega)
      have st : rX m_M_whose m_M_whose 4 [.ref 435, .int x, .int (iv i), dd, dd] [] (em U K z) = rX m_M_whose m_M_whose 21 [.ref 435, .int x, .int (iv i), .int (iv 1), .int (iv (149 + 2 * 0))] [] (em U K z) := by
        rw [show (149 : Int) + 2 * 0 = 149 from rfl]
        conv => lhs; rw [q_M_whose_4]
        simp (disch := first | decide | omega | (simp (disch := first | decide | omega) only [sv_s, sv_o, ur_s, ur_e, ur_o]; omega)) only [↓reduceIte, iv_add, iv_sub, iv_mul, iv_neg, iv_ltT, iv_ltF, iv_leT, iv_leF, iv_eqT, iv_eqF, iv_div, iv_mod, ↓bnI_s, ↓bnV_s, ↓bnJ_s, ↓bnR_s, rt_e, rt_0, rt_bz, sv_s, sv_o, ur_s, ur_e, ur_o, bz_T, bz_F, nat_eqF, Nat.reduceAdd, ↓gR_435_0 F, ↓lI_436 F, ↓lI_437 F, ↓lI_438 F, ↓lI_439 F, ↓lI_440 F, ↓lI_441 F, ↓lI_443 F, ↓lI_444 F, ↓lI_445 F, ↓lI_446 F, ↓lI_447 F, ↓lI_448 F, ↓lI_449 F, ↓lI_450 F, il_0, il_1, il_4, il_11, il_21, il_149, u1]
      rcases c1 with ⟨c1, c4⟩ | ⟨c1, c4⟩
      · exact ⟨U', K', _, Or.inl ⟨a3.elim (fun h => h.1) (fun h => absurd c1 h.2), rfl⟩, st.trans c4, c2, c3⟩
      · exact ⟨U', K', _, Or.inr ⟨a3.elim (fun h => absurd h.2 c1) (fun h => h.1), rfl⟩, st.trans c4, c2, c3⟩
    obtain ⟨y, hy⟩ : ∃ y : Int32, (b = 1 ∧ y = x ||| (iv 1 <<< (iv i &&& iv 31))) ∨ (b = 0 ∧ y = x) := a3.elim (fun h => ⟨_, Or.inl ⟨h.1, rfl⟩⟩) (fun h => ⟨_, Or.inr ⟨h.1, rfl⟩⟩)
    obtain ⟨w, V', f1, f2, f3⟩ := ih V1 (i + 1) y a2 (by omega) (by omega)
    refine ⟨w, V', (go y hy).trans f1, f2, fun U K hU h8 => ?_⟩
    obtain ⟨U1, K1, y', m1, m2, m3, m4⟩ := mo U K hU h8
    have ey : y' = y := by
      rcases hy with ⟨h1, h2⟩ | ⟨h1, h2⟩ <;> rcases m1 with ⟨k1, k2⟩ | ⟨k1, k2⟩
      · rw [h2, k2]
      · omega
      · omega
      · rw [h2, k2]
    rw [ey] at m2
    obtain ⟨U2, K2, n1, n2, n3⟩ := f3 U1 K1 m4 ((funext fun a => m3 438 a (Or.inl (scr_F (by omega))) (by decide)).trans h8)
    exact ⟨U2, K2, m2.trans n1, m3.tr n2, n3⟩
theorem p_whose (F : Fix z) (g : GI TXR I0 V z) : Pq V J z (fun h => cA m_X_whose [.ref 8] h) (fun h => cA m_M_whose [.ref 435] h) := by
  obtain ⟨t1, t2, t3, t4, t5⟩ := g.1.2.2.2.2.2.2.2.2
  obtain ⟨w, V', e1, e2, e3⟩ := y_whose (J := J) F g.1.1 g.1.2.2.2.2.2.2.2.1 t1 t2 t5 (V 436 1).toNat V 0 (iv 0) (fun _ _ => rfl) (by omega) (by omega)
  obtain ⟨U', K', f1, f2, f3⟩ := e3 V' J (e2 436 (by decide)) (e2 438 (by decide))
  have ew : w = iv w.toInt := (Int32.ofInt_toInt w).symm
  rw [ew] at e1 f1
  refine ⟨w.toInt, V', J, U', K', ?_, core_418 e2, ?_, (core_M f2 (f3.trans (e2 436 (by decide)).symm)).trans (core_418 e2)⟩
  · show cA m_X_whose [.ref 8] (em V J z) = _
    rw [← e1, q_X_whose, gd_8 F, il_0]
  · show cA m_M_whose [.ref 435] (em V' J z) = _
    rw [← f1, q_M_whose, gd_435 F, il_0]
end
