/-! DINNERS -/
/-- the law that holds -/
def Lc (z : Zz) (V0 : Vm) (q : Nat) (i : Int) (rv bv : (Int → Int) → Int → Int) : Prop := Lw z V0 q i rv bv ∧ V0 436 2 = i ∧ ∀ V J : Vm, V 9 11 = V0 9 11 → V 9 12 = V0 9 12 → cA m_House_law [.ref 9] (em V J z) = some (.ref q, em V J z)
section
variable {A A' : Int → Int} {V V' V0 J U : Vm} {z : Zz} {t q : Nat} {i : Int} {rv bv : (Int → Int) → Int → Int}
theorem RW.all {B : Int → Int} (h : RW 1 B U A) : U 436 = A := funext fun k => h.1 k (Or.inl rfl)
theorem RW.of (h : U 436 = A) : RW 1 A U A := ⟨fun k _ => by rw [h], fun x => absurd x (by decide)⟩
theorem Mid.law (m : Mid V0 V A) : ∀ a, 450 < a → V a = V0 a := fun a ha => m.row (by omega)
theorem Mid.two (m : Mid V0 V A) : A 2 = V0 436 2 := m.2.2.1 2 (by omega)
theorem Mid.at (m : Mid V0 V A) {k : Int} (hk : k ≠ 9 ∧ k ≠ 10) : V 9 k = V0 9 k := m.1 9 k (scr_F (by omega)) (by omega) (by omega) (by omega)
theorem Lc.at (L : Lc z V0 q i rv bv) (m : Mid V0 V A) : cA m_House_law [.ref 9] (em V J z) = some (.ref q, em V J z) := L.2.2 V J (m.at (by omega)) (m.at (by omega))
/-- a table that has changed behind a step just saved -/
theorem Mid.tabled {V1 V3 : Vm} {A3 : Int → Int} (m : Mid V0 V A) (o : ∀ a k, ¬ (30 ≤ a ∧ a < 210) → ¬ (a = 9 ∧ (k = 9 ∨ k = 10)) → V1 a k = V a k) (h : KS V1 (keepA A)) (l : Ls (keepA A)) (f : frT 10 V1 V3) (hk : Kn V3 10 A3) (hc : ∀ k, k < 7 ∨ (23 ≤ k ∧ k < 1425) → A3 k = keepA A k) : Mid V0 V3 A3 := by
  have s2 := m.2.1.2.2.1
  refine (m.turn o h l (fun a j sa h1 => ?_) f.2.1 f.2.2 hc ?_).1
  · by_cases qa : a = 418
    · subst qa
      exact absurd sa (by rw [scr_T (by omega)]; decide)
    · rw [f.1 a qa (by omega)]
  · have e := hc 0 (by omega)
    rw [keepA_o s2 (by omega) (by omega)] at e
    rw [← e]
    exact hk.2.2.2
/-- a dinner, with its step -/
theorem y_dine1 (F : Fix z) (L : Lc z V0 q i rv bv) (m : Mid V0 V A) (h7 : A 7 < 9999) : ∃ V1 A' V' d, cA m_House_saveStep [.ref 9] (em V J z) = some (.null, em V1 J z) ∧ cA m_House_law [.ref 9] (em V1 J z) = some (.ref q, em V1 J z) ∧ cA m_Table_passDinner [.ref 10, .ref q, .ref 417] (em V1 J z) = some (.int (iv d), em V' J z) ∧ Mid V0 V' A' ∧ A' 7 = A 7 + 1 ∧ (0 ≤ d ∧ d ≤ 6) ∧ ∀ U K, U 436 = A → U 438 = V0 438 → U 435 23 = 1 → ∃ U1 U' K', cA m_M_keep [.ref 435] (em U K z) = some (.null, em U1 K z) ∧ cA m_M_pass [.ref 435] (em U1 K z) = some (.null, em U' K' z) ∧ U' 436 = A' ∧ frM U U' ∧ U' 435 24 = U 435 24 + d := by
  have T := T10 F
  have s2 := m.2.1.2.2.1
  obtain ⟨V1, e1, e2, k1, l1⟩ := y_saveA (J := J) F m.2.1
  have lw : ∀ a, 450 < a → V1 a = V0 a := fun a ha => (funext fun k => e2 a k (by omega) (by omega)).trans (m.law a ha)
  have ko := fun k (k3 : k ≠ 3) (hk : k < 165 ∨ 1425 ≤ k) => keepA_o s2 k3 hk
  obtain ⟨A', V', d, d0, p1, p2, p3, p4, p5, p6⟩ := y_pass (J := J) (w := 1) F T (by omega) L.1 (Or.inr rfl) k1.1 lw ((ko 2 (by omega) (by omega)).trans (m.two.trans L.2.1)) (by rw [ko 7 (by omega) (by omega)]; exact h7)
  have md : Mid V0 V' A' := m.tabled e2 k1 l1 p3 p2 (fun k hk => p4 k (by omega))
  refine ⟨V1, A', V', d, e1, ?_, p1, md, by rw [p5, ko 7 (by omega) (by omega)], d0, fun U K hU h438 h23 => ?_⟩
  · exact L.2.2 V1 J ((e2 9 11 (by omega) (by omega)).trans (m.at (by omega))) ((e2 9 12 (by omega) (by omega)).trans (m.at (by omega)))
  · obtain ⟨U1, f1, f2, f3⟩ := y_keepA (V := U) (J := K) F (by rw [hU]; exact s2)
    rw [hU] at f3
    have u435 : U1 435 = U 435 := f2 435 (by decide)
    obtain ⟨U2, K2, g1, g2, g3, g4⟩ := p6 _ U1 K (RW.of f3) ((f2 438 (by decide)).trans h438) (by rw [u435]; exact h23)
    have fr1 : frM U U1 := fun a j _ ha => by rw [f2 a ha]
    exact ⟨U1, U2, K2, f1, g1, g2.all, fr1.tr g3, by rw [g4, u435]⟩
theorem y_dines (F : Fix z) (L : Lc z V0 q i rv bv) {n : Int} (hn : n ≤ 60) : ∀ (m : Nat) (V : Vm) (A : Int → Int) (j c : Int), Mid V0 V A → 0 ≤ j → j + m = n → ∃ A' V' d, rX m_House_dine m_House_dine 5 [.ref 9, .int (iv n), .ref 417, .int (iv c), .int (iv j)] [] (em V J z) = some (.int (iv (c + d)), em V' J z) ∧ Mid V0 V' A' ∧ (0 ≤ d ∧ d ≤ 6 * m) ∧ ∀ U K, U 436 = A → U 438 = V0 438 → U 435 23 = 1 → ∃ U' K', rX m_M_arePassed m_M_arePassed 7 [.ref 435, .int (iv n), .int (iv j)] [] (em U K z) = some (.int (iv (bz (A 7 + m ≤ 9999))), em U' K' z) ∧ U' 436 = A' ∧ frM U U' ∧ U' 435 24 = U 435 24 + d := by
  have T := T10 F
  intro m
  induction m with
  | zero =>
    intro V A j c md j0 hj
    have e7 := md.2.1.1.2.2.2.2.2.2.1
    refine ⟨A, V, 0, ?_, md, by omega, fun U K hU _ _ => ⟨U, K, ?_, hU, frM.rfl_, by omega⟩⟩
    · rw [Int.add_zero]
      (rw [q_House_dine_5]; simp (disch := first | decide | omega | (simp (disch := first | decide | omega) only [sv_s, sv_o, ur_s, ur_e, ur_o]; omega)) only [↓reduceIte, iv_add, iv_sub, iv_mul, iv_neg, iv_ltT, iv_ltF, iv_leT, iv_leF, iv_eqT, iv_eqF, iv_div, iv_mod, ↓bnI_s, ↓bnV_s, ↓bnJ_s, ↓bnR_s, rt_e, rt_0, rt_bz, sv_s, sv_o, ur_s, ur_e, ur_o, bz_T, bz_F, nat_eqF, Nat.reduceAdd, ↓gR_9_0 F, ↓gT_7 T, il_0, il_1, il_2, il_5, il_7, il_60, il_9999])
    · rw [bz_T (by omega)]
      (rw [q_M_arePassed_7]; simp (disch := first | decide | omega | (simp (disch := first | decide | omega) only [sv_s, sv_o, ur_s, ur_e, ur_o]; omega)) only [↓reduceIte, iv_add, iv_sub, iv_mul, iv_neg, iv_ltT, iv_ltF, iv_leT, iv_leF, iv_eqT, iv_eqF, iv_div, iv_mod, ↓bnI_s, ↓bnV_s, ↓bnJ_s, ↓bnR_s, rt_e, rt_0, rt_bz, sv_s, sv_o, ur_s, ur_e, ur_o, bz_T, bz_F, nat_eqF, Nat.reduceAdd, ↓gR_435_0 F, ↓lI_436 F, ↓lI_437 F, ↓lI_438 F, ↓lI_439 F, ↓lI_440 F, ↓lI_441 F, ↓lI_443 F, ↓lI_444 F, ↓lI_445 F, ↓lI_446 F, ↓lI_447 F, ↓lI_448 F, ↓lI_449 F, ↓lI_450 F, il_0, il_1, il_7, il_11, il_9999])
  | succ m ih =>
    intro V A j c md j0 hj
    have e7 := md.2.1.1.2.2.2.2.2.2.1
    by_cases h7 : A 7 = 9999
    · refine ⟨A, V, 0, ?_, md, by omega, fun U K hU _ _ => ⟨U, K, ?_, hU, frM.rfl_, by omega⟩⟩
      · rw [Int.add_zero]
        (rw [q_House_dine_5]; simp (disch := first | decide | omega | (simp (disch := first | decide | omega) only [sv_s, sv_o, ur_s, ur_e, ur_o]; omega)) only [↓reduceIte, iv_add, iv_sub, iv_mul, iv_neg, iv_ltT, iv_ltF, iv_leT, iv_leF, iv_eqT, iv_eqF, iv_div, iv_mod, ↓bnI_s, ↓bnV_s, ↓bnJ_s, ↓bnR_s, rt_e, rt_0, rt_bz, sv_s, sv_o, ur_s, ur_e, ur_o, bz_T, bz_F, nat_eqF, Nat.reduceAdd, ↓gR_9_0 F, ↓gT_7 T, il_0, il_1, il_2, il_5, il_7, il_60, il_9999, ↓gR_9_0 F, ↓gI_10_7 F, e7.1, h7])
      · have u7 : U 436 7 = 9999 := by rw [hU]; exact h7
        rw [bz_F (by omega)]
        (rw [q_M_arePassed_7]; simp (disch := first | decide | omega | (simp (disch := first | decide | omega) only [sv_s, sv_o, ur_s, ur_e, ur_o]; omega)) only [↓reduceIte, iv_add, iv_sub, iv_mul, iv_neg, iv_ltT, iv_ltF, iv_leT, iv_leF, iv_eqT, iv_eqF, iv_div, iv_mod, ↓bnI_s, ↓bnV_s, ↓bnJ_s, ↓bnR_s, rt_e, rt_0, rt_bz, sv_s, sv_o, ur_s, ur_e, ur_o, bz_T, bz_F, nat_eqF, Nat.reduceAdd, ↓gR_435_0 F, ↓lI_436 F, ↓lI_437 F, ↓lI_438 F, ↓lI_439 F, ↓lI_440 F, ↓lI_441 F, ↓lI_443 F, ↓lI_444 F, ↓lI_445 F, ↓lI_446 F, ↓lI_447 F, ↓lI_448 F, ↓lI_449 F, ↓lI_450 F, il_0, il_1, il_7, il_11, il_9999, u7])
    · obtain ⟨V1, A1, V2, d1, a1, a2, a3, a4, a5, a6, a7⟩ := y_dine1 (J := J) F L md (by omega)
      obtain ⟨A2, V3, d2, b1, b2, b3, b4⟩ := ih V2 A1 (j + 1) (c + d1) a4 (by omega) (by omega)
      refine ⟨A2, V3, d1 + d2, ?_, b2, by omega, fun U K hU h438 h23 => ?_⟩
      · rw [← Int.add_assoc, ← b1]
        (rw [q_House_dine_5]; simp (disch := first | decide | omega | (simp (disch := first | decide | omega) only [sv_s, sv_o, ur_s, ur_e, ur_o]; omega)) only [↓reduceIte, iv_add, iv_sub, iv_mul, iv_neg, iv_ltT, iv_ltF, iv_leT, iv_leF, iv_eqT, iv_eqF, iv_div, iv_mod, ↓bnI_s, ↓bnV_s, ↓bnJ_s, ↓bnR_s, rt_e, rt_0, rt_bz, sv_s, sv_o, ur_s, ur_e, ur_o, bz_T, bz_F, nat_eqF, Nat.reduceAdd, ↓gR_9_0 F, ↓gT_7 T, il_0, il_1, il_2, il_5, il_7, il_60, il_9999, ↓gR_9_0 F, ↓gI_10_7 F, e7.1, a1, a2, a3])
      · obtain ⟨U1, U2, K2, c1, c2, c3, c4, c5⟩ := a7 U K hU h438 h23
        obtain ⟨U3, K3, f1, f2, f3, f4⟩ := b4 U2 K2 c3 ((funext fun k => c4 438 k (Or.inl (scr_F (by omega))) (by decide)).trans h438) ((c4 435 23 (Or.inl (scr_F (by omega))) (by decide)).trans h23)
        refine ⟨U3, K3, ?_, f2, c4.tr f3, by omega⟩
        have u7 : U 436 7 = A 7 := by rw [hU]
        rw [bz_eq (q := A1 7 + m ≤ 9999) (by omega), ← f1]
        (rw [q_M_arePassed_7]; simp (disch := first | decide | omega | (simp (disch := first | decide | omega) only [sv_s, sv_o, ur_s, ur_e, ur_o]; omega)) only [↓reduceIte, iv_add, iv_sub, iv_mul, iv_neg, iv_ltT, iv_ltF, iv_leT, iv_leF, iv_eqT, iv_eqF, iv_div, iv_mod, ↓bnI_s, ↓bnV_s, ↓bnJ_s, ↓bnR_s, rt_e, rt_0, rt_bz, sv_s, sv_o, ur_s, ur_e, ur_o, bz_T, bz_F, nat_eqF, Nat.reduceAdd, ↓gR_435_0 F, ↓lI_436 F, ↓lI_437 F, ↓lI_438 F, ↓lI_439 F, ↓lI_440 F, ↓lI_441 F, ↓lI_443 F, ↓lI_444 F, ↓lI_445 F, ↓lI_446 F, ↓lI_447 F, ↓lI_448 F, ↓lI_449 F, ↓lI_450 F, il_0, il_1, il_7, il_11, il_9999, u7, c1, c2])
/-- both dine n times, as far as they can -/
theorem y_dine (F : Fix z) (L : Lc z V0 q i rv bv) {n : Int} (hn : 0 ≤ n ∧ n ≤ 60) (md : Mid V0 V A) : ∃ A' V' d, cA m_House_dine [.ref 9, .int (iv n), .ref 417] (em V J z) = some (.int (iv d), em V' J z) ∧ Mid V0 V' A' ∧ (0 ≤ d ∧ d ≤ 360) ∧ ∀ U K, U 436 = A → U 438 = V0 438 → U 435 23 = 1 → ∃ U' K', cA m_M_arePassed [.ref 435, .int (iv n)] (em U K z) = some (.int (iv (bz (A 7 + n ≤ 9999))), em U' K' z) ∧ U' 436 = A' ∧ frM U U' ∧ U' 435 24 = d := by
  obtain ⟨A', V', d, e1, e2, e3, e4⟩ := y_dines (J := J) F L hn.2 n.toNat V A 0 0 md (by omega) (by omega)
  refine ⟨A', V', d, ?_, e2, by omega, fun U K hU h438 h23 => ?_⟩
  · rw [Int.zero_add] at e1
    rw [← e1]
    simp (disch := first | decide | omega | (simp (disch := first | decide | omega) only [sv_s, sv_o, ur_s, ur_e, ur_o]; omega)) only [↓reduceIte, iv_add, iv_sub, iv_mul, iv_neg, iv_ltT, iv_ltF, iv_leT, iv_leF, iv_eqT, iv_eqF, iv_div, iv_mod, ↓bnI_s, ↓bnV_s, ↓bnJ_s, ↓bnR_s, rt_e, rt_0, rt_bz, sv_s, sv_o, ur_s, ur_e, ur_o, bz_T, bz_F, nat_eqF, Nat.reduceAdd, ↓q_House_dine, ↓gd_9 F, il_0, il_1, il_5, il_18]
  · have fr0 : frM U (sv U 435 24 0) := fun a j sa _ => by
      by_cases qa : a = 435
      · subst qa
        by_cases qj : j = 24
        · subst qj
          exact absurd sa (by rw [scr_T (by omega)]; decide)
        · simp (disch := first | decide | omega | (simp (disch := first | decide | omega) only [sv_s, sv_o, ur_s, ur_e, ur_o]; omega)) only [↓reduceIte, iv_add, iv_sub, iv_mul, iv_neg, iv_ltT, iv_ltF, iv_leT, iv_leF, iv_eqT, iv_eqF, iv_div, iv_mod, ↓bnI_s, ↓bnV_s, ↓bnJ_s, ↓bnR_s, rt_e, rt_0, rt_bz, sv_s, sv_o, ur_s, ur_e, ur_o, bz_T, bz_F, nat_eqF, Nat.reduceAdd]
      · simp (disch := first | decide | omega | (simp (disch := first | decide | omega) only [sv_s, sv_o, ur_s, ur_e, ur_o]; omega)) only [↓reduceIte, iv_add, iv_sub, iv_mul, iv_neg, iv_ltT, iv_ltF, iv_leT, iv_leF, iv_eqT, iv_eqF, iv_div, iv_mod, ↓bnI_s, ↓bnV_s, ↓bnJ_s, ↓bnR_s, rt_e, rt_0, rt_bz, sv_s, sv_o, ur_s, ur_e, ur_o, bz_T, bz_F, nat_eqF, Nat.reduceAdd]
    obtain ⟨U', K', f1, f2, f3, f4⟩ := e4 (sv U 435 24 0) K (by simp (disch := first | decide | omega | (simp (disch := first | decide | omega) only [sv_s, sv_o, ur_s, ur_e, ur_o]; omega)) only [↓reduceIte, iv_add, iv_sub, iv_mul, iv_neg, iv_ltT, iv_ltF, iv_leT, iv_leF, iv_eqT, iv_eqF, iv_div, iv_mod, ↓bnI_s, ↓bnV_s, ↓bnJ_s, ↓bnR_s, rt_e, rt_0, rt_bz, sv_s, sv_o, ur_s, ur_e, ur_o, bz_T, bz_F, nat_eqF, Nat.reduceAdd, hU]) (by simp (disch := first | decide | omega | (simp (disch := first | decide | omega) only [sv_s, sv_o, ur_s, ur_e, ur_o]; omega)) only [↓reduceIte, iv_add, iv_sub, iv_mul, iv_neg, iv_ltT, iv_ltF, iv_leT, iv_leF, iv_eqT, iv_eqF, iv_div, iv_mod, ↓bnI_s, ↓bnV_s, ↓bnJ_s, ↓bnR_s, rt_e, rt_0, rt_bz, sv_s, sv_o, ur_s, ur_e, ur_o, bz_T, bz_F, nat_eqF, Nat.reduceAdd, h438]) (by simp (disch := first | decide | omega | (simp (disch := first | decide | omega) only [sv_s, sv_o, ur_s, ur_e, ur_o]; omega)) only [↓reduceIte, iv_add, iv_sub, iv_mul, iv_neg, iv_ltT, iv_ltF, iv_leT, iv_leF, iv_eqT, iv_eqF, iv_div, iv_mod, ↓bnI_s, ↓bnV_s, ↓bnJ_s, ↓bnR_s, rt_e, rt_0, rt_bz, sv_s, sv_o, ur_s, ur_e, ur_o, bz_T, bz_F, nat_eqF, Nat.reduceAdd, h23])
    refine ⟨U', K', ?_, f2, fr0.tr f3, ?_⟩
    · rw [bz_eq (q := A 7 + (n.toNat : Int) ≤ 9999) (by omega), ← f1]
      simp (disch := first | decide | omega | (simp (disch := first | decide | omega) only [sv_s, sv_o, ur_s, ur_e, ur_o]; omega)) only [↓reduceIte, iv_add, iv_sub, iv_mul, iv_neg, iv_ltT, iv_ltF, iv_leT, iv_leF, iv_eqT, iv_eqF, iv_div, iv_mod, ↓bnI_s, ↓bnV_s, ↓bnJ_s, ↓bnR_s, rt_e, rt_0, rt_bz, sv_s, sv_o, ur_s, ur_e, ur_o, bz_T, bz_F, nat_eqF, Nat.reduceAdd, ↓q_M_arePassed, ↓pI_435_24 F, ↓gd_435 F, il_0, il_1, il_7, il_11, il_24, il_27]
    · rw [f4]; simp (disch := first | decide | omega | (simp (disch := first | decide | omega) only [sv_s, sv_o, ur_s, ur_e, ur_o]; omega)) only [↓reduceIte, iv_add, iv_sub, iv_mul, iv_neg, iv_ltT, iv_ltF, iv_leT, iv_leF, iv_eqT, iv_eqF, iv_div, iv_mod, ↓bnI_s, ↓bnV_s, ↓bnJ_s, ↓bnR_s, rt_e, rt_0, rt_bz, sv_s, sv_o, ur_s, ur_e, ur_o, bz_T, bz_F, nat_eqF, Nat.reduceAdd]; omega
theorem d_dinner (F : Fix z) (L : Lc z V0 q i rv bv) {n : Int} (hn : (-2147483648 ≤ n ∧ n < 2147483648)) : Dd z V0 (fun h => cA m_X_dinner [.ref 8, .int (iv n)] h) (fun h => cA m_M_dinner [.ref 435, .int (iv n)] h) := by
  intro V J A m
  have T := T10 F
  have e7 := m.2.1.1.2.2.2.2.2.2.1
  have e71 : V 10 7 = A 7 := e7.1
  by_cases h1 : 1 ≤ n ∧ n ≤ 60
  · by_cases h2 : A 7 + n ≤ 9999
    · obtain ⟨A', V', d, e1, e2, e3, e4⟩ := y_dine (J := J) F L (n := n) (by omega) m
      refine ⟨d, A', V', J, ?_, e2, by omega, fun U K hU h438 h23 => ?_⟩
      · simp (disch := first | decide | omega | (simp (disch := first | decide | omega) only [sv_s, sv_o, ur_s, ur_e, ur_o]; omega)) only [↓reduceIte, iv_add, iv_sub, iv_mul, iv_neg, iv_ltT, iv_ltF, iv_leT, iv_leF, iv_eqT, iv_eqF, iv_div, iv_mod, ↓bnI_s, ↓bnV_s, ↓bnJ_s, ↓bnR_s, rt_e, rt_0, rt_bz, sv_s, sv_o, ur_s, ur_e, ur_o, bz_T, bz_F, nat_eqF, Nat.reduceAdd, ↓q_X_dinner, ↓gR_8_0 F, ↓gR_9_0 F, ↓gI_10_7 F, ↓gR_8_3 F, ↓gd_8 F, il_0, il_1, il_2, il_3, il_7, il_10, il_26, il_60, il_9999, y_within, e71, e1]
      · obtain ⟨U', K', f1, f2, f3, f4⟩ := e4 U K hU h438 h23
        rw [bz_T h2] at f1
        have u7 : U 436 7 = A 7 := by rw [hU]
        refine ⟨U', K', ?_, f2, f3⟩
        simp (disch := first | decide | omega | (simp (disch := first | decide | omega) only [sv_s, sv_o, ur_s, ur_e, ur_o]; omega)) only [↓reduceIte, iv_add, iv_sub, iv_mul, iv_neg, iv_ltT, iv_ltF, iv_leT, iv_leF, iv_eqT, iv_eqF, iv_div, iv_mod, ↓bnI_s, ↓bnV_s, ↓bnJ_s, ↓bnR_s, rt_e, rt_0, rt_bz, sv_s, sv_o, ur_s, ur_e, ur_o, bz_T, bz_F, nat_eqF, Nat.reduceAdd, ↓q_M_dinner, ↓gR_435_0 F, ↓gI_435_24 F, ↓lI_436 F, ↓lI_437 F, ↓lI_438 F, ↓lI_439 F, ↓lI_440 F, ↓lI_441 F, ↓lI_443 F, ↓lI_444 F, ↓lI_445 F, ↓lI_446 F, ↓lI_447 F, ↓lI_448 F, ↓lI_449 F, ↓lI_450 F, ↓gd_435 F, il_0, il_1, il_7, il_11, il_24, il_27, il_60, il_9999, y_isIn, u7, f1, f4]
    · refine ⟨-1, A, V, J, ?_, m, by omega, fun U K hU _ _ => ⟨U, K, ?_, hU, frM.rfl_⟩⟩
      · simp (disch := first | decide | omega | (simp (disch := first | decide | omega) only [sv_s, sv_o, ur_s, ur_e, ur_o]; omega)) only [↓reduceIte, iv_add, iv_sub, iv_mul, iv_neg, iv_ltT, iv_ltF, iv_leT, iv_leF, iv_eqT, iv_eqF, iv_div, iv_mod, ↓bnI_s, ↓bnV_s, ↓bnJ_s, ↓bnR_s, rt_e, rt_0, rt_bz, sv_s, sv_o, ur_s, ur_e, ur_o, bz_T, bz_F, nat_eqF, Nat.reduceAdd, ↓q_X_dinner, ↓gR_8_0 F, ↓gR_9_0 F, ↓gI_10_7 F, ↓gR_8_3 F, ↓gd_8 F, il_0, il_1, il_2, il_3, il_7, il_10, il_26, il_60, il_9999, y_within, e71]
      · have u7 : U 436 7 = A 7 := by rw [hU]
        simp (disch := first | decide | omega | (simp (disch := first | decide | omega) only [sv_s, sv_o, ur_s, ur_e, ur_o]; omega)) only [↓reduceIte, iv_add, iv_sub, iv_mul, iv_neg, iv_ltT, iv_ltF, iv_leT, iv_leF, iv_eqT, iv_eqF, iv_div, iv_mod, ↓bnI_s, ↓bnV_s, ↓bnJ_s, ↓bnR_s, rt_e, rt_0, rt_bz, sv_s, sv_o, ur_s, ur_e, ur_o, bz_T, bz_F, nat_eqF, Nat.reduceAdd, ↓q_M_dinner, ↓gR_435_0 F, ↓gI_435_24 F, ↓lI_436 F, ↓lI_437 F, ↓lI_438 F, ↓lI_439 F, ↓lI_440 F, ↓lI_441 F, ↓lI_443 F, ↓lI_444 F, ↓lI_445 F, ↓lI_446 F, ↓lI_447 F, ↓lI_448 F, ↓lI_449 F, ↓lI_450 F, ↓gd_435 F, il_0, il_1, il_7, il_11, il_24, il_27, il_60, il_9999, y_isIn, u7]
  · have b1 : bz (1 ≤ n ∧ n ≤ 60) = 0 := bz_F h1
    refine ⟨-1, A, V, J, ?_, m, by omega, fun U K hU _ _ => ⟨U, K, ?_, hU, frM.rfl_⟩⟩
    · simp (disch := first | decide | omega | (simp (disch := first | decide | omega) only [sv_s, sv_o, ur_s, ur_e, ur_o]; omega)) only [↓reduceIte, iv_add, iv_sub, iv_mul, iv_neg, iv_ltT, iv_ltF, iv_leT, iv_leF, iv_eqT, iv_eqF, iv_div, iv_mod, ↓bnI_s, ↓bnV_s, ↓bnJ_s, ↓bnR_s, rt_e, rt_0, rt_bz, sv_s, sv_o, ur_s, ur_e, ur_o, bz_T, bz_F, nat_eqF, Nat.reduceAdd, ↓q_X_dinner, ↓gR_8_0 F, ↓gR_9_0 F, ↓gI_10_7 F, ↓gR_8_3 F, ↓gd_8 F, il_0, il_1, il_2, il_3, il_7, il_10, il_26, il_60, il_9999, y_within, b1]
    · simp (disch := first | decide | omega | (simp (disch := first | decide | omega) only [sv_s, sv_o, ur_s, ur_e, ur_o]; omega)) only [↓reduceIte, iv_add, iv_sub, iv_mul, iv_neg, iv_ltT, iv_ltF, iv_leT, iv_leF, iv_eqT, iv_eqF, iv_div, iv_mod, ↓bnI_s, ↓bnV_s, ↓bnJ_s, ↓bnR_s, rt_e, rt_0, rt_bz, sv_s, sv_o, ur_s, ur_e, ur_o, bz_T, bz_F, nat_eqF, Nat.reduceAdd, ↓q_M_dinner, ↓gR_435_0 F, ↓gI_435_24 F, ↓lI_436 F, ↓lI_437 F, ↓lI_438 F, ↓lI_439 F, ↓lI_440 F, ↓lI_441 F, ↓lI_443 F, ↓lI_444 F, ↓lI_445 F, ↓lI_446 F, ↓lI_447 F, ↓lI_448 F, ↓lI_449 F, ↓lI_450 F, ↓gd_435 F, il_0, il_1, il_7, il_11, il_24, il_27, il_60, il_9999, y_isIn, b1]
end
