/-! TO MEND: the calls -/
section
variable {V J : Vm} {z : Zz}
/-- how far the search has come: class (low, high, spite) and model (found), the least spite so far -/
def Mst (V : Vm) (least found : Int) : Prop := (found = -1 ∧ V 427 5 = -1 ∧ V 427 6 = -1 ∧ V 427 7 = -1) ∨ ((0 ≤ V 427 5 ∧ V 427 5 < 6) ∧ (0 ≤ V 427 6 ∧ V 427 6 < 6) ∧ found = 6 * V 427 5 + V 427 6 ∧ V 427 7 = least)
/-- the class's side of the search, against what the model finds: V for the class, U for the model -/
theorem y_mend_i (F : Fix z) {A S : Int → Int} (n : 0 ≤ A 0 ∧ A 0 ≤ 6) (hP : PS A) (hS : SpO S) (hA : ∀ k, 0 ≤ k → k < 36 → A (35 + k) = S k) {a w : Int} (ha : 0 ≤ a ∧ a < A 0) : ∀ (m : Nat) (b least found : Int) (V U : Vm), a < b → b + m = A 0 → V 10 5 = A 0 → Tr V 10 (A 0) A → V 18 = S → (∀ s, 0 ≤ s → s < A 0 → V 428 s = wat A s) → U 436 = A → (0 ≤ least ∧ least ≤ 1000) → Mst V least found →
    ∃ V' U' least' found', (∀ c, c ≠ 427 → c ≠ 428 → V' c = V c) ∧ (∀ s, 0 ≤ s → s < A 0 → V' 428 s = V 428 s) ∧ (∀ c, c ≠ 445 → U' c = U c) ∧ (0 ≤ least' ∧ least' ≤ 1000) ∧ Mst V' least' found' ∧
      rX m_Rounds_seekMend m_Rounds_seekMend 78 [.ref 427, .ref 9, .int (iv (A 0)), .int (iv least), .int (iv a), .int (iv b), dd] [] (em V J z) = rX m_Rounds_seekMend m_Rounds_seekMend 66 [.ref 427, .ref 9, .int (iv (A 0)), .int (iv least'), .int (iv (a + 1)), dd, dd] [] (em V' J z) ∧
      rX m_M_mend m_M_mend 38 [.ref 435, .int (iv w), .int (iv least), .int (iv found), .int (iv a), .int (iv b), dd] [] (em U J z) = rX m_M_mend m_M_mend 21 [.ref 435, .int (iv w), .int (iv least'), .int (iv found'), .int (iv (a + 1)), dd, dd] [] (em U' J z) := by
  intro m
  induction m with
  | zero =>
    intro b least found V U hab hb h5 R h18 h28 hU hl hM
    refine ⟨V, U, least, found, fun _ _ _ => rfl, fun _ _ _ => rfl, fun _ _ => rfl, hl, hM, ?_, ?_⟩
    · (rw [q_Rounds_seekMend_78]; simp (disch := first | decide | omega | (simp (disch := first | decide | omega) only [sv_s, sv_o, ur_s, ur_e, ur_o]; omega)) only [↓reduceIte, iv_add, iv_sub, iv_mul, iv_neg, iv_ltT, iv_ltF, iv_leT, iv_leF, iv_eqT, iv_eqF, iv_div, iv_mod, ↓bnI_s, ↓bnV_s, ↓bnJ_s, ↓bnR_s, rt_e, rt_0, rt_bz, sv_s, sv_o, ur_s, ur_e, ur_o, bz_T, bz_F, nat_eqF, Nat.reduceAdd, ↓pI_427_5 F, ↓pI_427_6 F, ↓pI_427_7 F, il_0, il_1, il_5, il_6, il_7, il_66, il_78])
    · (rw [q_M_mend_38]; simp (disch := first | decide | omega | (simp (disch := first | decide | omega) only [sv_s, sv_o, ur_s, ur_e, ur_o]; omega)) only [↓reduceIte, iv_add, iv_sub, iv_mul, iv_neg, iv_ltT, iv_ltF, iv_leT, iv_leF, iv_eqT, iv_eqF, iv_div, iv_mod, ↓bnI_s, ↓bnV_s, ↓bnJ_s, ↓bnR_s, rt_e, rt_0, rt_bz, sv_s, sv_o, ur_s, ur_e, ur_o, bz_T, bz_F, nat_eqF, Nat.reduceAdd, ↓gR_435_0 F, ↓lI_436 F, ↓lI_437 F, ↓lI_438 F, ↓lI_439 F, ↓lI_440 F, ↓lI_441 F, ↓lI_443 F, ↓lI_444 F, ↓lI_445 F, ↓lI_446 F, ↓lI_447 F, ↓lI_448 F, ↓lI_449 F, ↓lI_450 F, il_0, il_1, il_6, il_11, il_21, il_38, hU])
  | succ m ih =>
    intro b least found V U hab hb h5 R h18 h28 hU hl hM
    obtain ⟨V1, f1, f2, f3⟩ := y_spiteSwapped (V := V) (J := J) F h5 n R (by rw [h18]; exact hS) h28 ha (b := b) (by omega)
    rw [h18] at f3
    obtain ⟨U1, U2, U3, k1, k2, k3, k4⟩ := y_M_swapped (V := U) (J := J) F (S := S) (by rw [hU]; exact hP) (fun k k0 k1 => by rw [hU]; exact hA k k0 k1) hS (a := a) (b := b) (by rw [hU]; exact ha) (by rw [hU]; omega) (by omega)
    rw [hU] at k2
    have rg : 0 ≤ spv S (wat (swp A a b)) (A 0) ∧ spv S (wat (swp A a b)) (A 0) ≤ 594 := by
      refine spv_rg hS (fun s s0 s1 => ?_) n
      have e0 : swp A a b 0 = A 0 := swp_o (by omega) (by omega)
      have := ((swp_ps hP ha (b := b) (by omega)).wt_ (s := s) (by rw [e0]; exact ⟨s0, s1⟩)).1
      rw [e0] at this
      omega
    generalize spv S (wat (swp A a b)) (A 0) = x at *
    have e1 : ∀ c, c ≠ 428 → V1 c = V c := f1
    by_cases q : x < least
    · obtain ⟨V', U', l', f', g1, g2, g3, g4, g5, g6, g7⟩ := ih (b + 1) x (6 * a + b) (sv (sv (sv V1 427 5 a) 427 6 b) 427 7 x) U3 (by omega) (by omega) (by simp (disch := first | decide | omega | (simp (disch := first | decide | omega) only [sv_s, sv_o, ur_s, ur_e, ur_o]; omega)) only [↓reduceIte, iv_add, iv_sub, iv_mul, iv_neg, iv_ltT, iv_ltF, iv_leT, iv_leF, iv_eqT, iv_eqF, iv_div, iv_mod, ↓bnI_s, ↓bnV_s, ↓bnJ_s, ↓bnR_s, rt_e, rt_0, rt_bz, sv_s, sv_o, ur_s, ur_e, ur_o, bz_T, bz_F, nat_eqF, Nat.reduceAdd]; rw [e1 10 (by decide)]; exact h5) (Tr_c n.2 (by simp (disch := first | decide | omega | (simp (disch := first | decide | omega) only [sv_s, sv_o, ur_s, ur_e, ur_o]; omega)) only [↓reduceIte, iv_add, iv_sub, iv_mul, iv_neg, iv_ltT, iv_ltF, iv_leT, iv_leF, iv_eqT, iv_eqF, iv_div, iv_mod, ↓bnI_s, ↓bnV_s, ↓bnJ_s, ↓bnR_s, rt_e, rt_0, rt_bz, sv_s, sv_o, ur_s, ur_e, ur_o, bz_T, bz_F, nat_eqF, Nat.reduceAdd]; exact e1 10 (by decide)) (by simp (disch := first | decide | omega | (simp (disch := first | decide | omega) only [sv_s, sv_o, ur_s, ur_e, ur_o]; omega)) only [↓reduceIte, iv_add, iv_sub, iv_mul, iv_neg, iv_ltT, iv_ltF, iv_leT, iv_leF, iv_eqT, iv_eqF, iv_div, iv_mod, ↓bnI_s, ↓bnV_s, ↓bnJ_s, ↓bnR_s, rt_e, rt_0, rt_bz, sv_s, sv_o, ur_s, ur_e, ur_o, bz_T, bz_F, nat_eqF, Nat.reduceAdd]; exact e1 12 (by decide)) (by simp (disch := first | decide | omega | (simp (disch := first | decide | omega) only [sv_s, sv_o, ur_s, ur_e, ur_o]; omega)) only [↓reduceIte, iv_add, iv_sub, iv_mul, iv_neg, iv_ltT, iv_ltF, iv_leT, iv_leF, iv_eqT, iv_eqF, iv_div, iv_mod, ↓bnI_s, ↓bnV_s, ↓bnJ_s, ↓bnR_s, rt_e, rt_0, rt_bz, sv_s, sv_o, ur_s, ur_e, ur_o, bz_T, bz_F, nat_eqF, Nat.reduceAdd]; exact e1 13 (by decide)) (by simp (disch := first | decide | omega | (simp (disch := first | decide | omega) only [sv_s, sv_o, ur_s, ur_e, ur_o]; omega)) only [↓reduceIte, iv_add, iv_sub, iv_mul, iv_neg, iv_ltT, iv_ltF, iv_leT, iv_leF, iv_eqT, iv_eqF, iv_div, iv_mod, ↓bnI_s, ↓bnV_s, ↓bnJ_s, ↓bnR_s, rt_e, rt_0, rt_bz, sv_s, sv_o, ur_s, ur_e, ur_o, bz_T, bz_F, nat_eqF, Nat.reduceAdd]; exact e1 14 (by decide)) (by simp (disch := first | decide | omega | (simp (disch := first | decide | omega) only [sv_s, sv_o, ur_s, ur_e, ur_o]; omega)) only [↓reduceIte, iv_add, iv_sub, iv_mul, iv_neg, iv_ltT, iv_ltF, iv_leT, iv_leF, iv_eqT, iv_eqF, iv_div, iv_mod, ↓bnI_s, ↓bnV_s, ↓bnJ_s, ↓bnR_s, rt_e, rt_0, rt_bz, sv_s, sv_o, ur_s, ur_e, ur_o, bz_T, bz_F, nat_eqF, Nat.reduceAdd]; exact e1 15 (by decide)) (fun _ _ _ => rfl) (fun _ _ _ => rfl) R) (by simp (disch := first | decide | omega | (simp (disch := first | decide | omega) only [sv_s, sv_o, ur_s, ur_e, ur_o]; omega)) only [↓reduceIte, iv_add, iv_sub, iv_mul, iv_neg, iv_ltT, iv_ltF, iv_leT, iv_leF, iv_eqT, iv_eqF, iv_div, iv_mod, ↓bnI_s, ↓bnV_s, ↓bnJ_s, ↓bnR_s, rt_e, rt_0, rt_bz, sv_s, sv_o, ur_s, ur_e, ur_o, bz_T, bz_F, nat_eqF, Nat.reduceAdd]; rw [e1 18 (by decide)]; exact h18) (fun s s0 s1 => by simp (disch := first | decide | omega | (simp (disch := first | decide | omega) only [sv_s, sv_o, ur_s, ur_e, ur_o]; omega)) only [↓reduceIte, iv_add, iv_sub, iv_mul, iv_neg, iv_ltT, iv_ltF, iv_leT, iv_leF, iv_eqT, iv_eqF, iv_div, iv_mod, ↓bnI_s, ↓bnV_s, ↓bnJ_s, ↓bnR_s, rt_e, rt_0, rt_bz, sv_s, sv_o, ur_s, ur_e, ur_o, bz_T, bz_F, nat_eqF, Nat.reduceAdd]; rw [f2 s]; exact h28 s s0 s1) (by rw [k4 436 (by decide)]; exact hU) (by omega) (Or.inr (by simp (disch := first | decide | omega | (simp (disch := first | decide | omega) only [sv_s, sv_o, ur_s, ur_e, ur_o]; omega)) only [↓reduceIte, iv_add, iv_sub, iv_mul, iv_neg, iv_ltT, iv_ltF, iv_leT, iv_leF, iv_eqT, iv_eqF, iv_div, iv_mod, ↓bnI_s, ↓bnV_s, ↓bnJ_s, ↓bnR_s, rt_e, rt_0, rt_bz, sv_s, sv_o, ur_s, ur_e, ur_o, bz_T, bz_F, nat_eqF, Nat.reduceAdd]; exact ⟨by omega, by omega, trivial, trivial⟩))
      refine ⟨V', U', l', f', fun c c1 c2 => by rw [g1 c c1 c2, sv_o c1, sv_o c1, sv_o c1, f1 c c2], fun s s0 s1 => by rw [g2 s s0 s1]; simp (disch := first | decide | omega | (simp (disch := first | decide | omega) only [sv_s, sv_o, ur_s, ur_e, ur_o]; omega)) only [↓reduceIte, iv_add, iv_sub, iv_mul, iv_neg, iv_ltT, iv_ltF, iv_leT, iv_leF, iv_eqT, iv_eqF, iv_div, iv_mod, ↓bnI_s, ↓bnV_s, ↓bnJ_s, ↓bnR_s, rt_e, rt_0, rt_bz, sv_s, sv_o, ur_s, ur_e, ur_o, bz_T, bz_F, nat_eqF, Nat.reduceAdd]; exact f2 s, fun c hc => (g3 c hc).trans (k4 c hc), g4, g5, ?_, ?_⟩
      · rw [← g6]
        (rw [q_Rounds_seekMend_78]; simp (disch := first | decide | omega | (simp (disch := first | decide | omega) only [sv_s, sv_o, ur_s, ur_e, ur_o]; omega)) only [↓reduceIte, iv_add, iv_sub, iv_mul, iv_neg, iv_ltT, iv_ltF, iv_leT, iv_leF, iv_eqT, iv_eqF, iv_div, iv_mod, ↓bnI_s, ↓bnV_s, ↓bnJ_s, ↓bnR_s, rt_e, rt_0, rt_bz, sv_s, sv_o, ur_s, ur_e, ur_o, bz_T, bz_F, nat_eqF, Nat.reduceAdd, ↓pI_427_5 F, ↓pI_427_6 F, ↓pI_427_7 F, il_0, il_1, il_5, il_6, il_7, il_66, il_78, f3])
      · rw [← g7]
        (rw [q_M_mend_38]; simp (disch := first | decide | omega | (simp (disch := first | decide | omega) only [sv_s, sv_o, ur_s, ur_e, ur_o]; omega)) only [↓reduceIte, iv_add, iv_sub, iv_mul, iv_neg, iv_ltT, iv_ltF, iv_leT, iv_leF, iv_eqT, iv_eqF, iv_div, iv_mod, ↓bnI_s, ↓bnV_s, ↓bnJ_s, ↓bnR_s, rt_e, rt_0, rt_bz, sv_s, sv_o, ur_s, ur_e, ur_o, bz_T, bz_F, nat_eqF, Nat.reduceAdd, ↓gR_435_0 F, ↓lI_436 F, ↓lI_437 F, ↓lI_438 F, ↓lI_439 F, ↓lI_440 F, ↓lI_441 F, ↓lI_443 F, ↓lI_444 F, ↓lI_445 F, ↓lI_446 F, ↓lI_447 F, ↓lI_448 F, ↓lI_449 F, ↓lI_450 F, il_0, il_1, il_6, il_11, il_21, il_38, hU, k1, k2, k3])
    · obtain ⟨V', U', l', f', g1, g2, g3, g4, g5, g6, g7⟩ := ih (b + 1) least found V1 U3 (by omega) (by omega) (by rw [e1 10 (by decide)]; exact h5) (Tr_c n.2 (e1 10 (by decide)) (e1 12 (by decide)) (e1 13 (by decide)) (e1 14 (by decide)) (e1 15 (by decide)) (fun _ _ _ => rfl) (fun _ _ _ => rfl) R) (by rw [e1 18 (by decide)]; exact h18) (fun s s0 s1 => by rw [f2 s]; exact h28 s s0 s1) (by rw [k4 436 (by decide)]; exact hU) hl (by unfold Mst at *; rw [e1 427 (by decide)]; exact hM)
      refine ⟨V', U', l', f', fun c c1 c2 => by rw [g1 c c1 c2, f1 c c2], fun s s0 s1 => by rw [g2 s s0 s1]; exact f2 s, fun c hc => (g3 c hc).trans (k4 c hc), g4, g5, ?_, ?_⟩
      · rw [← g6]
        (rw [q_Rounds_seekMend_78]; simp (disch := first | decide | omega | (simp (disch := first | decide | omega) only [sv_s, sv_o, ur_s, ur_e, ur_o]; omega)) only [↓reduceIte, iv_add, iv_sub, iv_mul, iv_neg, iv_ltT, iv_ltF, iv_leT, iv_leF, iv_eqT, iv_eqF, iv_div, iv_mod, ↓bnI_s, ↓bnV_s, ↓bnJ_s, ↓bnR_s, rt_e, rt_0, rt_bz, sv_s, sv_o, ur_s, ur_e, ur_o, bz_T, bz_F, nat_eqF, Nat.reduceAdd, ↓pI_427_5 F, ↓pI_427_6 F, ↓pI_427_7 F, il_0, il_1, il_5, il_6, il_7, il_66, il_78, f3])
      · rw [← g7]
        (rw [q_M_mend_38]; simp (disch := first | decide | omega | (simp (disch := first | decide | omega) only [sv_s, sv_o, ur_s, ur_e, ur_o]; omega)) only [↓reduceIte, iv_add, iv_sub, iv_mul, iv_neg, iv_ltT, iv_ltF, iv_leT, iv_leF, iv_eqT, iv_eqF, iv_div, iv_mod, ↓bnI_s, ↓bnV_s, ↓bnJ_s, ↓bnR_s, rt_e, rt_0, rt_bz, sv_s, sv_o, ur_s, ur_e, ur_o, bz_T, bz_F, nat_eqF, Nat.reduceAdd, ↓gR_435_0 F, ↓lI_436 F, ↓lI_437 F, ↓lI_438 F, ↓lI_439 F, ↓lI_440 F, ↓lI_441 F, ↓lI_443 F, ↓lI_444 F, ↓lI_445 F, ↓lI_446 F, ↓lI_447 F, ↓lI_448 F, ↓lI_449 F, ↓lI_450 F, il_0, il_1, il_6, il_11, il_21, il_38, hU, k1, k2, k3])
theorem y_mend_o (F : Fix z) {A S : Int → Int} (n : 0 ≤ A 0 ∧ A 0 ≤ 6) (hP : PS A) (hS : SpO S) (hA : ∀ k, 0 ≤ k → k < 36 → A (35 + k) = S k) {w : Int} : ∀ (m : Nat) (a least found : Int) (V U : Vm), 0 ≤ a → a + m = A 0 → V 10 5 = A 0 → Tr V 10 (A 0) A → V 18 = S → (∀ s, 0 ≤ s → s < A 0 → V 428 s = wat A s) → U 436 = A → (0 ≤ least ∧ least ≤ 1000) → Mst V least found →
    ∃ V' U' least' found', (∀ c, c ≠ 427 → c ≠ 428 → V' c = V c) ∧ (∀ c, c ≠ 445 → U' c = U c) ∧ (0 ≤ least' ∧ least' ≤ 1000) ∧ Mst V' least' found' ∧
      rX m_Rounds_seekMend m_Rounds_seekMend 66 [.ref 427, .ref 9, .int (iv (A 0)), .int (iv least), .int (iv a), dd, dd] [] (em V J z) = some (.null, em V' J z) ∧
      rX m_M_mend m_M_mend 21 [.ref 435, .int (iv w), .int (iv least), .int (iv found), .int (iv a), dd, dd] [] (em U J z) = rX m_M_mend m_M_mend 21 [.ref 435, .int (iv w), .int (iv least'), .int (iv found'), .int (iv (A 0)), dd, dd] [] (em U' J z) := by
  intro m
  induction m with
  | zero =>
    intro a least found V U h0 ha h5 R h18 h28 hU hl hM
    refine ⟨V, U, least, found, fun _ _ _ => rfl, fun _ _ => rfl, hl, hM, ?_, by rw [show a = A 0 by omega]⟩
    (rw [q_Rounds_seekMend_66]; simp (disch := first | decide | omega | (simp (disch := first | decide | omega) only [sv_s, sv_o, ur_s, ur_e, ur_o]; omega)) only [↓reduceIte, iv_add, iv_sub, iv_mul, iv_neg, iv_ltT, iv_ltF, iv_leT, iv_leF, iv_eqT, iv_eqF, iv_div, iv_mod, ↓bnI_s, ↓bnV_s, ↓bnJ_s, ↓bnR_s, rt_e, rt_0, rt_bz, sv_s, sv_o, ur_s, ur_e, ur_o, bz_T, bz_F, nat_eqF, Nat.reduceAdd, il_0, il_1, il_66, il_78])
  | succ m ih =>
    intro a least found V U h0 ha h5 R h18 h28 hU hl hM
    obtain ⟨V1, U1, l1, f1, a1, a2, a3, a4, a5, a6, a7⟩ := y_mend_i (J := J) F (w := w) n hP hS hA (a := a) (by omega) m (a + 1) least found V U (by omega) (by omega) h5 R h18 h28 hU hl hM
    obtain ⟨V', U', l', f', b1, b2, b3, b4, b5, b6⟩ := ih (a + 1) l1 f1 V1 U1 (by omega) (by omega) (by rw [a1 10 (by decide) (by decide)]; exact h5) (Tr_c n.2 (a1 10 (by decide) (by decide)) (a1 12 (by decide) (by decide)) (a1 13 (by decide) (by decide)) (a1 14 (by decide) (by decide)) (a1 15 (by decide) (by decide)) (fun _ _ _ => rfl) (fun _ _ _ => rfl) R) (by rw [a1 18 (by decide) (by decide)]; exact h18) (fun s s0 s1 => by rw [a2 s s0 s1]; exact h28 s s0 s1) (by rw [a3 436 (by decide)]; exact hU) a4 a5
    refine ⟨V', U', l', f', fun c c1 c2 => (b1 c c1 c2).trans (a1 c c1 c2), fun c hc => (b2 c hc).trans (a3 c hc), b3, b4, ?_, ?_⟩
    · rw [← b5, ← a6]
      (rw [q_Rounds_seekMend_66]; simp (disch := first | decide | omega | (simp (disch := first | decide | omega) only [sv_s, sv_o, ur_s, ur_e, ur_o]; omega)) only [↓reduceIte, iv_add, iv_sub, iv_mul, iv_neg, iv_ltT, iv_ltF, iv_leT, iv_leF, iv_eqT, iv_eqF, iv_div, iv_mod, ↓bnI_s, ↓bnV_s, ↓bnJ_s, ↓bnR_s, rt_e, rt_0, rt_bz, sv_s, sv_o, ur_s, ur_e, ur_o, bz_T, bz_F, nat_eqF, Nat.reduceAdd, il_0, il_1, il_66, il_78])
    · rw [← b6, ← a7]
      (rw [q_M_mend_21]; simp (disch := first | decide | omega | (simp (disch := first | decide | omega) only [sv_s, sv_o, ur_s, ur_e, ur_o]; omega)) only [↓reduceIte, iv_add, iv_sub, iv_mul, iv_neg, iv_ltT, iv_ltF, iv_leT, iv_leF, iv_eqT, iv_eqF, iv_div, iv_mod, ↓bnI_s, ↓bnV_s, ↓bnJ_s, ↓bnR_s, rt_e, rt_0, rt_bz, sv_s, sv_o, ur_s, ur_e, ur_o, bz_T, bz_F, nat_eqF, Nat.reduceAdd, ↓gR_435_0 F, ↓lI_436 F, ↓lI_437 F, ↓lI_438 F, ↓lI_439 F, ↓lI_440 F, ↓lI_441 F, ↓lI_443 F, ↓lI_444 F, ↓lI_445 F, ↓lI_446 F, ↓lI_447 F, ↓lI_448 F, ↓lI_449 F, ↓lI_450 F, il_0, il_1, il_6, il_11, il_21, il_38, hU])
theorem y_mend_c (F : Fix z) : ∀ (m k : Nat) (V : Vm), k + m = 6 → (∀ j : Int, 0 ≤ j → j < k → V 428 j = V 14 j) → ∃ V', (∀ c, c ≠ 428 → V' c = V c) ∧ (∀ j : Int, 0 ≤ j → j < 6 → V' 428 j = V 14 j) ∧ ∀ x : Int32, rX m_Rounds_seekMend m_Rounds_seekMend 10 [.ref 427, .ref 9, .int x, .int (iv k), dd, dd, dd] [] (em V J z) = rX m_Rounds_seekMend m_Rounds_seekMend 10 [.ref 427, .ref 9, .int x, .int (iv 6), dd, dd, dd] [] (em V' J z) := by
  intro m
  induction m with
  | zero =>
    intro k V hk h
    refine ⟨V, fun _ _ => rfl, fun j j0 j1 => h j j0 (by omega), fun x => ?_⟩
    rw [show (k : Int) = 6 by omega]
  | succ m ih =>
    intro k V hk h
    obtain ⟨V', f1, f2, f3⟩ := ih (k + 1) (sv V 428 k (V 14 k)) (by omega) (fun j j0 j1 => by
      rw [sv_s, sv_o (by decide)]
      by_cases q : j = k
      · rw [q, ur_s]
      · rw [ur_o q]; exact h j j0 (by omega))
    refine ⟨V', fun c hc => (f1 c hc).trans (sv_o hc), fun j j0 j1 => by rw [f2 j j0 j1, sv_o (by decide)], fun x => ?_⟩
    rw [← f3]
    (rw [q_Rounds_seekMend_10]; simp (disch := first | decide | omega | (simp (disch := first | decide | omega) only [sv_s, sv_o, ur_s, ur_e, ur_o]; omega)) only [↓reduceIte, iv_add, iv_sub, iv_mul, iv_neg, iv_ltT, iv_ltF, iv_leT, iv_leF, iv_eqT, iv_eqF, iv_div, iv_mod, ↓bnI_s, ↓bnV_s, ↓bnJ_s, ↓bnR_s, rt_e, rt_0, rt_bz, sv_s, sv_o, ur_s, ur_e, ur_o, bz_T, bz_F, nat_eqF, Nat.reduceAdd, ↓gR_427_0 F, ↓gR_9_0 F, ↓gR_10_3 F, ↓pI_427_5 F, ↓pI_427_6 F, ↓pI_427_7 F, ↓sI_18 F, ↓sI_19 F, ↓sI_20 F, ↓sI_22 F, ↓sI_23 F, ↓sI_25 F, ↓sI_26 F, ↓sI_28 F, ↓sI_29 F, ↓sI_418 F, ↓sI_420 F, ↓sI_421 F, ↓sI_422 F, ↓sI_423 F, ↓sI_425 F, ↓sI_426 F, ↓sI_428 F, ↓sI_429 F, ↓sI_432 F, ↓sI_433 F, ↓sI_434 F, ↓nI_18 F, ↓nI_19 F, ↓nI_20 F, ↓nI_22 F, ↓nI_23 F, ↓nI_25 F, ↓nI_26 F, ↓nI_28 F, ↓nI_29 F, ↓nI_418 F, ↓nI_420 F, ↓nI_421 F, ↓nI_422 F, ↓nI_423 F, ↓nI_425 F, ↓nI_426 F, ↓nI_428 F, ↓nI_429 F, ↓nI_432 F, ↓nI_433 F, ↓nI_434 F, il_0, il_1, il_2, il_3, il_5, il_6, il_7, il_10, il_66, y_get (s_14 F) (by decide), rd_in, Int.natCast_add, Int.natCast_one])
end
section
variable {TX : Vm → Zz → Nat → Int → Prop} {I0 : Nat → Nat → Int32} {V J : Vm} {z : Zz}
theorem p_mend (F : Fix z) (g : GI TX I0 V z) {w : Int} (hw : (-2147483648 ≤ w ∧ w < 2147483648)) : Pq V J z (fun h => cA m_X_mend [.ref 8, .int (iv w)] h) (fun h => cA m_M_mend [.ref 435, .int (iv w)] h) := by
  obtain ⟨n1, n2, n3, n4⟩ := g.1.1
  obtain ⟨s1, s2⟩ := Spi.so g.1.2.2.1
  have hP := g.ps
  obtain ⟨V1, f1, f2, f3⟩ := y_mend_c (J := J) F 6 0 V (by omega) (fun j j0 j1 => absurd j1 (by omega))
  have W : ∃ W, W = sv (sv (sv V1 427 5 (-1)) 427 6 (-1)) 427 7 (-1) := ⟨_, rfl⟩
  obtain ⟨W, hW⟩ := W
  have wo : ∀ c, c ≠ 427 → c ≠ 428 → W c = V c := fun c c1 c2 => by rw [hW, sv_o c1, sv_o c1, sv_o c1, f1 c c2]
  have TrW : Tr W 10 (V 436 0) (V 436) := Tr_c n2.2 (wo 10 (by decide) (by decide)) (wo 12 (by decide) (by decide)) (wo 13 (by decide) (by decide)) (wo 14 (by decide) (by decide)) (wo 15 (by decide) (by decide)) (fun _ _ _ => rfl) (fun _ _ _ => rfl) n4
  have w5 : W 10 5 = V 436 0 := by rw [wo 10 (by decide) (by decide)]; exact n1
  have e1 := y_around (V := W) (J := J) F (A := V 436) w5 n2 TrW (by rw [wo 18 (by decide) (by decide)]; exact s1)
  rw [wo 18 (by decide) (by decide)] at e1
  have rg : 0 ≤ spv (V 18) (wat (V 436)) (V 436 0) ∧ spv (V 18) (wat (V 436)) (V 436 0) ≤ 594 := spv_rg s1 (fun s s0 s1 => by have := (hP.wt_ ⟨s0, s1⟩).1; omega) n2
  have st : cA m_Rounds_seekMend [.ref 427, .ref 9] (em V J z) = rX m_Rounds_seekMend m_Rounds_seekMend 66 [.ref 427, .ref 9, .int (iv (V 436 0)), .int (iv (spv (V 18) (wat (V 436)) (V 436 0))), .int (iv 0), dd, dd] [] (em W J z) := by
    have n1 : V 10 5 = V 436 0 := n1
    have a : cA m_Rounds_seekMend [.ref 427, .ref 9] (em V J z) = rX m_Rounds_seekMend m_Rounds_seekMend 10 [.ref 427, .ref 9, .int (iv (V 436 0)), .int (iv ((0 : Nat) : Int)), dd, dd, dd] [] (em V J z) := by
      simp (disch := first | decide | omega | (simp (disch := first | decide | omega) only [sv_s, sv_o, ur_s, ur_e, ur_o]; omega)) only [↓reduceIte, iv_add, iv_sub, iv_mul, iv_neg, iv_ltT, iv_ltF, iv_leT, iv_leF, iv_eqT, iv_eqF, iv_div, iv_mod, ↓bnI_s, ↓bnV_s, ↓bnJ_s, ↓bnR_s, rt_e, rt_0, rt_bz, sv_s, sv_o, ur_s, ur_e, ur_o, bz_T, bz_F, nat_eqF, Nat.reduceAdd, ↓q_Rounds_seekMend, ↓gR_9_0 F, ↓gI_10_5 F, ↓gd_427 F, il_0, il_1, il_2, il_5, il_7, il_10, il_21, n1]
      rfl
    rw [a, f3]
    have e1' : cA m_Rounds_spiteAround [.ref 427, .ref 9] (em (sv (sv (sv V1 427 5 (-1)) 427 6 (-1)) 427 7 (-1)) J z) = some (.int (iv (spv (V 18) (wat (V 436)) (V 436 0))), em W J z) := by rw [← hW]; exact e1
    (rw [q_Rounds_seekMend_10]; simp (disch := first | decide | omega | (simp (disch := first | decide | omega) only [sv_s, sv_o, ur_s, ur_e, ur_o]; omega)) only [↓reduceIte, iv_add, iv_sub, iv_mul, iv_neg, iv_ltT, iv_ltF, iv_leT, iv_leF, iv_eqT, iv_eqF, iv_div, iv_mod, ↓bnI_s, ↓bnV_s, ↓bnJ_s, ↓bnR_s, rt_e, rt_0, rt_bz, sv_s, sv_o, ur_s, ur_e, ur_o, bz_T, bz_F, nat_eqF, Nat.reduceAdd, ↓gR_427_0 F, ↓gR_9_0 F, ↓gR_10_3 F, ↓pI_427_5 F, ↓pI_427_6 F, ↓pI_427_7 F, ↓sI_18 F, ↓sI_19 F, ↓sI_20 F, ↓sI_22 F, ↓sI_23 F, ↓sI_25 F, ↓sI_26 F, ↓sI_28 F, ↓sI_29 F, ↓sI_418 F, ↓sI_420 F, ↓sI_421 F, ↓sI_422 F, ↓sI_423 F, ↓sI_425 F, ↓sI_426 F, ↓sI_428 F, ↓sI_429 F, ↓sI_432 F, ↓sI_433 F, ↓sI_434 F, ↓nI_18 F, ↓nI_19 F, ↓nI_20 F, ↓nI_22 F, ↓nI_23 F, ↓nI_25 F, ↓nI_26 F, ↓nI_28 F, ↓nI_29 F, ↓nI_418 F, ↓nI_420 F, ↓nI_421 F, ↓nI_422 F, ↓nI_423 F, ↓nI_425 F, ↓nI_426 F, ↓nI_428 F, ↓nI_429 F, ↓nI_432 F, ↓nI_433 F, ↓nI_434 F, il_0, il_1, il_2, il_3, il_5, il_6, il_7, il_10, il_66, e1'])
  have fin : ∀ U : Vm, U 436 = V 436 → ∃ V' U' least' found', (∀ c, c ≠ 427 → c ≠ 428 → V' c = W c) ∧ (∀ c, c ≠ 445 → U' c = U c) ∧ (0 ≤ least' ∧ least' ≤ 1000) ∧ Mst V' least' found' ∧ cA m_Rounds_seekMend [.ref 427, .ref 9] (em V J z) = some (.null, em V' J z) ∧ rX m_M_mend m_M_mend 21 [.ref 435, .int (iv w), .int (iv (spv (V 18) (wat (V 436)) (V 436 0))), .int (iv (-1)), .int (iv 0), dd, dd] [] (em U J z) = rX m_M_mend m_M_mend 21 [.ref 435, .int (iv w), .int (iv least'), .int (iv found'), .int (iv (V 436 0)), dd, dd] [] (em U' J z) := by
    intro U hU
    rw [st]
    exact y_mend_o (J := J) F (A := V 436) (S := V 18) n2 hP s1 s2 (V 436 0).toNat 0 _ (-1) W U (by omega) (by omega) w5 TrW (wo 18 (by decide) (by decide)) (fun s s0 s1 => by
      rw [hW]; simp (disch := first | decide | omega | (simp (disch := first | decide | omega) only [sv_s, sv_o, ur_s, ur_e, ur_o]; omega)) only [↓reduceIte, iv_add, iv_sub, iv_mul, iv_neg, iv_ltT, iv_ltF, iv_leT, iv_leF, iv_eqT, iv_eqF, iv_div, iv_mod, ↓bnI_s, ↓bnV_s, ↓bnJ_s, ↓bnR_s, rt_e, rt_0, rt_bz, sv_s, sv_o, ur_s, ur_e, ur_o, bz_T, bz_F, nat_eqF, Nat.reduceAdd]
      rw [f2 s s0 (by omega)]
      exact n4.at n2 ⟨s0, s1⟩) hU (by omega) (Or.inl ⟨rfl, by rw [hW]; simp (disch := first | decide | omega | (simp (disch := first | decide | omega) only [sv_s, sv_o, ur_s, ur_e, ur_o]; omega)) only [↓reduceIte, iv_add, iv_sub, iv_mul, iv_neg, iv_ltT, iv_ltF, iv_leT, iv_leF, iv_eqT, iv_eqF, iv_div, iv_mod, ↓bnI_s, ↓bnV_s, ↓bnJ_s, ↓bnR_s, rt_e, rt_0, rt_bz, sv_s, sv_o, ur_s, ur_e, ur_o, bz_T, bz_F, nat_eqF, Nat.reduceAdd], by rw [hW]; simp (disch := first | decide | omega | (simp (disch := first | decide | omega) only [sv_s, sv_o, ur_s, ur_e, ur_o]; omega)) only [↓reduceIte, iv_add, iv_sub, iv_mul, iv_neg, iv_ltT, iv_ltF, iv_leT, iv_leF, iv_eqT, iv_eqF, iv_div, iv_mod, ↓bnI_s, ↓bnV_s, ↓bnJ_s, ↓bnR_s, rt_e, rt_0, rt_bz, sv_s, sv_o, ur_s, ur_e, ur_o, bz_T, bz_F, nat_eqF, Nat.reduceAdd], by rw [hW]; simp (disch := first | decide | omega | (simp (disch := first | decide | omega) only [sv_s, sv_o, ur_s, ur_e, ur_o]; omega)) only [↓reduceIte, iv_add, iv_sub, iv_mul, iv_neg, iv_ltT, iv_ltF, iv_leT, iv_leF, iv_eqT, iv_eqF, iv_div, iv_mod, ↓bnI_s, ↓bnV_s, ↓bnJ_s, ↓bnR_s, rt_e, rt_0, rt_bz, sv_s, sv_o, ur_s, ur_e, ur_o, bz_T, bz_F, nat_eqF, Nat.reduceAdd]⟩)
  have cX : ∀ V', (∀ c, c ≠ 427 → c ≠ 428 → V' c = W c) → core V' = core V := fun V' h => core_2 (fun c c1 c2 => (h c c1 c2).trans (wo c c1 c2)) (fun k => scr_T (by omega)) (fun k => scr_T (by omega))
  by_cases h1 : 0 ≤ w ∧ w ≤ 2
  · -- the model begins behind the class's search: its memory is the class's last one
    obtain ⟨Va, Ua, la, fa, a1, a2, a3, a4, a5, a6⟩ := fin V rfl
    have e436 : Va 436 = V 436 := (a1 436 (by decide) (by decide)).trans (wo 436 (by decide) (by decide))
    obtain ⟨U0, u1, u2⟩ := y_seats (V := Va) (J := J) F (S := V 18) (by rw [e436]; exact hP) (fun k k0 k1 => by rw [e436]; exact s2 k k0 k1) s1
    rw [e436] at u2
    obtain ⟨Vb, Ub, lb, fb, b1, b2, b3, b4, b5, b6⟩ := fin U0 ((u1 436 (by decide)).trans e436)
    -- both searches of the class are the same one
    have hm : em Va J z = em Vb J z := (Prod.mk.inj (Option.some.inj (a5.symm.trans b5))).2
    have e0 : Ub 436 = V 436 := (b2 436 (by decide)).trans ((u1 436 (by decide)).trans e436)
    have eM : cA m_M_mend [.ref 435, .int (iv w)] (em Vb J z) = rX m_M_mend m_M_mend 21 [.ref 435, .int (iv w), .int (iv lb), .int (iv fb), .int (iv (V 436 0)), dd, dd] [] (em Ub J z) := by
      rw [← b6, ← hm]
      simp (disch := first | decide | omega | (simp (disch := first | decide | omega) only [sv_s, sv_o, ur_s, ur_e, ur_o]; omega)) only [↓reduceIte, iv_add, iv_sub, iv_mul, iv_neg, iv_ltT, iv_ltF, iv_leT, iv_leF, iv_eqT, iv_eqF, iv_div, iv_mod, ↓bnI_s, ↓bnV_s, ↓bnJ_s, ↓bnR_s, rt_e, rt_0, rt_bz, sv_s, sv_o, ur_s, ur_e, ur_o, bz_T, bz_F, nat_eqF, Nat.reduceAdd, ↓q_M_mend, ↓gd_435 F, il_0, il_1, il_2, il_21, il_27, y_isIn, u2]
    have cU : core Ub = core V := (core_445 b2).trans ((core_445 u1).trans (cX Va a1))
    rcases b4 with ⟨m1, m2, m3, m4⟩ | ⟨m1, m2, m3, m4⟩
    · subst m1
      refine ⟨-1, Vb, J, Ub, J, ?_, cX Vb b1, ?_, cU⟩
      · rcases (show w = 0 ∨ w = 1 ∨ w = 2 by omega) with rfl | rfl | rfl
        · simp (disch := first | decide | omega | (simp (disch := first | decide | omega) only [sv_s, sv_o, ur_s, ur_e, ur_o]; omega)) only [↓reduceIte, iv_add, iv_sub, iv_mul, iv_neg, iv_ltT, iv_ltF, iv_leT, iv_leF, iv_eqT, iv_eqF, iv_div, iv_mod, ↓bnI_s, ↓bnV_s, ↓bnJ_s, ↓bnR_s, rt_e, rt_0, rt_bz, sv_s, sv_o, ur_s, ur_e, ur_o, bz_T, bz_F, nat_eqF, Nat.reduceAdd, ↓q_X_mend, ↓gR_8_6 F, ↓gR_8_0 F, ↓gI_427_5 F, ↓gI_427_6 F, ↓gI_427_7 F, ↓gd_8 F, il_0, il_1, il_2, il_5, il_6, il_7, il_10, il_26, b5, m2]
        · simp (disch := first | decide | omega | (simp (disch := first | decide | omega) only [sv_s, sv_o, ur_s, ur_e, ur_o]; omega)) only [↓reduceIte, iv_add, iv_sub, iv_mul, iv_neg, iv_ltT, iv_ltF, iv_leT, iv_leF, iv_eqT, iv_eqF, iv_div, iv_mod, ↓bnI_s, ↓bnV_s, ↓bnJ_s, ↓bnR_s, rt_e, rt_0, rt_bz, sv_s, sv_o, ur_s, ur_e, ur_o, bz_T, bz_F, nat_eqF, Nat.reduceAdd, ↓q_X_mend, ↓gR_8_6 F, ↓gR_8_0 F, ↓gI_427_5 F, ↓gI_427_6 F, ↓gI_427_7 F, ↓gd_8 F, il_0, il_1, il_2, il_5, il_6, il_7, il_10, il_26, b5, m3]
        · simp (disch := first | decide | omega | (simp (disch := first | decide | omega) only [sv_s, sv_o, ur_s, ur_e, ur_o]; omega)) only [↓reduceIte, iv_add, iv_sub, iv_mul, iv_neg, iv_ltT, iv_ltF, iv_leT, iv_leF, iv_eqT, iv_eqF, iv_div, iv_mod, ↓bnI_s, ↓bnV_s, ↓bnJ_s, ↓bnR_s, rt_e, rt_0, rt_bz, sv_s, sv_o, ur_s, ur_e, ur_o, bz_T, bz_F, nat_eqF, Nat.reduceAdd, ↓q_X_mend, ↓gR_8_6 F, ↓gR_8_0 F, ↓gI_427_5 F, ↓gI_427_6 F, ↓gI_427_7 F, ↓gd_8 F, il_0, il_1, il_2, il_5, il_6, il_7, il_10, il_26, b5, m4]
      · show cA _ _ _ = _
        rw [eM]
        (rw [q_M_mend_21]; simp (disch := first | decide | omega | (simp (disch := first | decide | omega) only [sv_s, sv_o, ur_s, ur_e, ur_o]; omega)) only [↓reduceIte, iv_add, iv_sub, iv_mul, iv_neg, iv_ltT, iv_ltF, iv_leT, iv_leF, iv_eqT, iv_eqF, iv_div, iv_mod, ↓bnI_s, ↓bnV_s, ↓bnJ_s, ↓bnR_s, rt_e, rt_0, rt_bz, sv_s, sv_o, ur_s, ur_e, ur_o, bz_T, bz_F, nat_eqF, Nat.reduceAdd, ↓gR_435_0 F, ↓lI_436 F, ↓lI_437 F, ↓lI_438 F, ↓lI_439 F, ↓lI_440 F, ↓lI_441 F, ↓lI_443 F, ↓lI_444 F, ↓lI_445 F, ↓lI_446 F, ↓lI_447 F, ↓lI_448 F, ↓lI_449 F, ↓lI_450 F, il_0, il_1, il_6, il_11, il_21, il_38, e0])
    · generalize hx : Vb 427 5 = x at *
      generalize hy : Vb 427 6 = y at *
      rcases (show w = 0 ∨ w = 1 ∨ w = 2 by omega) with rfl | rfl | rfl
      · refine ⟨x, Vb, J, Ub, J, ?_, cX Vb b1, ?_, cU⟩
        · simp (disch := first | decide | omega | (simp (disch := first | decide | omega) only [sv_s, sv_o, ur_s, ur_e, ur_o]; omega)) only [↓reduceIte, iv_add, iv_sub, iv_mul, iv_neg, iv_ltT, iv_ltF, iv_leT, iv_leF, iv_eqT, iv_eqF, iv_div, iv_mod, ↓bnI_s, ↓bnV_s, ↓bnJ_s, ↓bnR_s, rt_e, rt_0, rt_bz, sv_s, sv_o, ur_s, ur_e, ur_o, bz_T, bz_F, nat_eqF, Nat.reduceAdd, ↓q_X_mend, ↓gR_8_6 F, ↓gR_8_0 F, ↓gI_427_5 F, ↓gI_427_6 F, ↓gI_427_7 F, ↓gd_8 F, il_0, il_1, il_2, il_5, il_6, il_7, il_10, il_26, b5, hx]
        · show cA _ _ _ = _
          rw [eM]
          (rw [q_M_mend_21]; simp (disch := first | decide | omega | (simp (disch := first | decide | omega) only [sv_s, sv_o, ur_s, ur_e, ur_o]; omega)) only [↓reduceIte, iv_add, iv_sub, iv_mul, iv_neg, iv_ltT, iv_ltF, iv_leT, iv_leF, iv_eqT, iv_eqF, iv_div, iv_mod, ↓bnI_s, ↓bnV_s, ↓bnJ_s, ↓bnR_s, rt_e, rt_0, rt_bz, sv_s, sv_o, ur_s, ur_e, ur_o, bz_T, bz_F, nat_eqF, Nat.reduceAdd, ↓gR_435_0 F, ↓lI_436 F, ↓lI_437 F, ↓lI_438 F, ↓lI_439 F, ↓lI_440 F, ↓lI_441 F, ↓lI_443 F, ↓lI_444 F, ↓lI_445 F, ↓lI_446 F, ↓lI_447 F, ↓lI_448 F, ↓lI_449 F, ↓lI_450 F, il_0, il_1, il_6, il_11, il_21, il_38, e0])
          exact si (by omega)
      · refine ⟨y, Vb, J, Ub, J, ?_, cX Vb b1, ?_, cU⟩
        · simp (disch := first | decide | omega | (simp (disch := first | decide | omega) only [sv_s, sv_o, ur_s, ur_e, ur_o]; omega)) only [↓reduceIte, iv_add, iv_sub, iv_mul, iv_neg, iv_ltT, iv_ltF, iv_leT, iv_leF, iv_eqT, iv_eqF, iv_div, iv_mod, ↓bnI_s, ↓bnV_s, ↓bnJ_s, ↓bnR_s, rt_e, rt_0, rt_bz, sv_s, sv_o, ur_s, ur_e, ur_o, bz_T, bz_F, nat_eqF, Nat.reduceAdd, ↓q_X_mend, ↓gR_8_6 F, ↓gR_8_0 F, ↓gI_427_5 F, ↓gI_427_6 F, ↓gI_427_7 F, ↓gd_8 F, il_0, il_1, il_2, il_5, il_6, il_7, il_10, il_26, b5, hy]
        · show cA _ _ _ = _
          rw [eM]
          (rw [q_M_mend_21]; simp (disch := first | decide | omega | (simp (disch := first | decide | omega) only [sv_s, sv_o, ur_s, ur_e, ur_o]; omega)) only [↓reduceIte, iv_add, iv_sub, iv_mul, iv_neg, iv_ltT, iv_ltF, iv_leT, iv_leF, iv_eqT, iv_eqF, iv_div, iv_mod, ↓bnI_s, ↓bnV_s, ↓bnJ_s, ↓bnR_s, rt_e, rt_0, rt_bz, sv_s, sv_o, ur_s, ur_e, ur_o, bz_T, bz_F, nat_eqF, Nat.reduceAdd, ↓gR_435_0 F, ↓lI_436 F, ↓lI_437 F, ↓lI_438 F, ↓lI_439 F, ↓lI_440 F, ↓lI_441 F, ↓lI_443 F, ↓lI_444 F, ↓lI_445 F, ↓lI_446 F, ↓lI_447 F, ↓lI_448 F, ↓lI_449 F, ↓lI_450 F, il_0, il_1, il_6, il_11, il_21, il_38, e0])
          exact si (by omega)
      · refine ⟨lb, Vb, J, Ub, J, ?_, cX Vb b1, ?_, cU⟩
        · simp (disch := first | decide | omega | (simp (disch := first | decide | omega) only [sv_s, sv_o, ur_s, ur_e, ur_o]; omega)) only [↓reduceIte, iv_add, iv_sub, iv_mul, iv_neg, iv_ltT, iv_ltF, iv_leT, iv_leF, iv_eqT, iv_eqF, iv_div, iv_mod, ↓bnI_s, ↓bnV_s, ↓bnJ_s, ↓bnR_s, rt_e, rt_0, rt_bz, sv_s, sv_o, ur_s, ur_e, ur_o, bz_T, bz_F, nat_eqF, Nat.reduceAdd, ↓q_X_mend, ↓gR_8_6 F, ↓gR_8_0 F, ↓gI_427_5 F, ↓gI_427_6 F, ↓gI_427_7 F, ↓gd_8 F, il_0, il_1, il_2, il_5, il_6, il_7, il_10, il_26, b5, m4]
        · show cA _ _ _ = _
          rw [eM]
          (rw [q_M_mend_21]; simp (disch := first | decide | omega | (simp (disch := first | decide | omega) only [sv_s, sv_o, ur_s, ur_e, ur_o]; omega)) only [↓reduceIte, iv_add, iv_sub, iv_mul, iv_neg, iv_ltT, iv_ltF, iv_leT, iv_leF, iv_eqT, iv_eqF, iv_div, iv_mod, ↓bnI_s, ↓bnV_s, ↓bnJ_s, ↓bnR_s, rt_e, rt_0, rt_bz, sv_s, sv_o, ur_s, ur_e, ur_o, bz_T, bz_F, nat_eqF, Nat.reduceAdd, ↓gR_435_0 F, ↓lI_436 F, ↓lI_437 F, ↓lI_438 F, ↓lI_439 F, ↓lI_440 F, ↓lI_441 F, ↓lI_443 F, ↓lI_444 F, ↓lI_445 F, ↓lI_446 F, ↓lI_447 F, ↓lI_448 F, ↓lI_449 F, ↓lI_450 F, il_0, il_1, il_6, il_11, il_21, il_38, e0])
  · obtain ⟨Va, Ua, la, fa, a1, a2, a3, a4, a5, a6⟩ := fin V rfl
    exact ⟨-1, Va, J, Va, J, (by simp (disch := first | decide | omega | (simp (disch := first | decide | omega) only [sv_s, sv_o, ur_s, ur_e, ur_o]; omega)) only [↓reduceIte, iv_add, iv_sub, iv_mul, iv_neg, iv_ltT, iv_ltF, iv_leT, iv_leF, iv_eqT, iv_eqF, iv_div, iv_mod, ↓bnI_s, ↓bnV_s, ↓bnJ_s, ↓bnR_s, rt_e, rt_0, rt_bz, sv_s, sv_o, ur_s, ur_e, ur_o, bz_T, bz_F, nat_eqF, Nat.reduceAdd, ↓q_X_mend, ↓gR_8_6 F, ↓gR_8_0 F, ↓gI_427_5 F, ↓gI_427_6 F, ↓gI_427_7 F, ↓gd_8 F, il_0, il_1, il_2, il_5, il_6, il_7, il_10, il_26, a5]), cX Va a1, (by simp (disch := first | decide | omega | (simp (disch := first | decide | omega) only [sv_s, sv_o, ur_s, ur_e, ur_o]; omega)) only [↓reduceIte, iv_add, iv_sub, iv_mul, iv_neg, iv_ltT, iv_ltF, iv_leT, iv_leF, iv_eqT, iv_eqF, iv_div, iv_mod, ↓bnI_s, ↓bnV_s, ↓bnJ_s, ↓bnR_s, rt_e, rt_0, rt_bz, sv_s, sv_o, ur_s, ur_e, ur_o, bz_T, bz_F, nat_eqF, Nat.reduceAdd, ↓q_M_mend, ↓gd_435 F, il_0, il_1, il_2, il_21, il_27, y_isIn]), cX Va a1⟩
end
