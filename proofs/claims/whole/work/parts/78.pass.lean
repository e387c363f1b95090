/-! a dinner passes -/
/-- what a law says, class and model -/
def Lw (z : Zz) (V0 : Vm) (q : Nat) (i : Int) (rv bv : (Int → Int) → Int → Int) : Prop := ∀ A k, (∃ V t, Kn V t A) → 0 ≤ k → k < A 0 → (0 ≤ rv A k ∧ rv A k ≤ 10) ∧ (0 ≤ bv A k ∧ bv A k ≤ 99) ∧
  (∀ V J t, (∀ a, 450 < a → V a = V0 a) → Tab z t → t + 6 ≤ 418 → Kn V t A → (∃ V', cA m_Asker_reachesOf [.ref 417, .ref q, .ref t, .int (iv k)] (em V J z) = some (.int (iv (rv A k)), em V' J z) ∧ ∀ a, a ≠ 418 → V' a = V a) ∧ ∃ V', cA m_Asker_bearsOf [.ref 417, .ref q, .ref t, .int (iv k)] (em V J z) = some (.int (iv (bv A k)), em V' J z) ∧ ∀ a, a ≠ 418 → V' a = V a) ∧
  ∀ U K w B, RW w B U A → U 438 = V0 438 → (∃ U' K', cA m_M_reachesOf [.ref 435, .int (iv i), .int (iv k)] (em U K z) = some (.int (iv (rv A k)), em U' K' z) ∧ frM U U' ∧ U' 436 = U 436 ∧ U' 435 24 = U 435 24) ∧ (A 2 = i → ∃ U' K', cA m_M_bearsOf [.ref 435, .int (iv k)] (em U K z) = some (.int (iv (bv A k)), em U' K' z) ∧ frM U U' ∧ U' 436 = U 436 ∧ U' 435 24 = U 435 24)
section
variable {A A' : Int → Int} {V V' V0 J U : Vm} {z : Zz} {t q : Nat} {w i : Int} {rv bv : (Int → Int) → Int → Int}
theorem frM.u {k x : Int} : frM U (sv U 436 k x) := fun a j _ h => by simp (disch := first | decide | omega | (simp (disch := first | decide | omega) only [sv_s, sv_o, ur_s, ur_e, ur_o]; omega)) only [↓reduceIte, iv_add, iv_sub, iv_mul, iv_neg, iv_ltT, iv_ltF, iv_leT, iv_leF, iv_eqT, iv_eqF, iv_div, iv_mod, ↓bnI_s, ↓bnV_s, ↓bnJ_s, ↓bnR_s, rt_e, rt_0, rt_bz, sv_s, sv_o, ur_s, ur_e, ur_o, bz_T, bz_F, nat_eqF, Nat.reduceAdd]
/-- what is drawn -/
theorem Kn_drawn (h : Kn V t A) {x : Int} (hx : 0 ≤ x ∧ x < 30971) : Kn (sv V t 8 x) t (ur A 8 x) := by
  refine Kn_t h (by simp (disch := first | decide | omega | (simp (disch := first | decide | omega) only [sv_s, sv_o, ur_s, ur_e, ur_o]; omega)) only [↓reduceIte, iv_add, iv_sub, iv_mul, iv_neg, iv_ltT, iv_ltF, iv_leT, iv_leF, iv_eqT, iv_eqF, iv_div, iv_mod, ↓bnI_s, ↓bnV_s, ↓bnJ_s, ↓bnR_s, rt_e, rt_0, rt_bz, sv_s, sv_o, ur_s, ur_e, ur_o, bz_T, bz_F, nat_eqF, Nat.reduceAdd]) (by simp (disch := first | decide | omega | (simp (disch := first | decide | omega) only [sv_s, sv_o, ur_s, ur_e, ur_o]; omega)) only [↓reduceIte, iv_add, iv_sub, iv_mul, iv_neg, iv_ltT, iv_ltF, iv_leT, iv_leF, iv_eqT, iv_eqF, iv_div, iv_mod, ↓bnI_s, ↓bnV_s, ↓bnJ_s, ↓bnR_s, rt_e, rt_0, rt_bz, sv_s, sv_o, ur_s, ur_e, ur_o, bz_T, bz_F, nat_eqF, Nat.reduceAdd]) (ur_o (by omega)) (fun j j0 j1 => ur_o (by omega)) (Tr_own h.2.2.2 h.2.1.2 (Or.inr (Or.inr ⟨rfl, hx⟩)) ?_ ?_ ?_ ?_ ?_)
  · rw [if_neg (by decide)]; simp (disch := first | decide | omega | (simp (disch := first | decide | omega) only [sv_s, sv_o, ur_s, ur_e, ur_o]; omega)) only [↓reduceIte, iv_add, iv_sub, iv_mul, iv_neg, iv_ltT, iv_ltF, iv_leT, iv_leF, iv_eqT, iv_eqF, iv_div, iv_mod, ↓bnI_s, ↓bnV_s, ↓bnJ_s, ↓bnR_s, rt_e, rt_0, rt_bz, sv_s, sv_o, ur_s, ur_e, ur_o, bz_T, bz_F, nat_eqF, Nat.reduceAdd]
  · simp (disch := first | decide | omega | (simp (disch := first | decide | omega) only [sv_s, sv_o, ur_s, ur_e, ur_o]; omega)) only [↓reduceIte, iv_add, iv_sub, iv_mul, iv_neg, iv_ltT, iv_ltF, iv_leT, iv_leF, iv_eqT, iv_eqF, iv_div, iv_mod, ↓bnI_s, ↓bnV_s, ↓bnJ_s, ↓bnR_s, rt_e, rt_0, rt_bz, sv_s, sv_o, ur_s, ur_e, ur_o, bz_T, bz_F, nat_eqF, Nat.reduceAdd]
  · simp (disch := first | decide | omega | (simp (disch := first | decide | omega) only [sv_s, sv_o, ur_s, ur_e, ur_o]; omega)) only [↓reduceIte, iv_add, iv_sub, iv_mul, iv_neg, iv_ltT, iv_ltF, iv_leT, iv_leF, iv_eqT, iv_eqF, iv_div, iv_mod, ↓bnI_s, ↓bnV_s, ↓bnJ_s, ↓bnR_s, rt_e, rt_0, rt_bz, sv_s, sv_o, ur_s, ur_e, ur_o, bz_T, bz_F, nat_eqF, Nat.reduceAdd]
  · simp (disch := first | decide | omega | (simp (disch := first | decide | omega) only [sv_s, sv_o, ur_s, ur_e, ur_o]; omega)) only [↓reduceIte, iv_add, iv_sub, iv_mul, iv_neg, iv_ltT, iv_ltF, iv_leT, iv_leF, iv_eqT, iv_eqF, iv_div, iv_mod, ↓bnI_s, ↓bnV_s, ↓bnJ_s, ↓bnR_s, rt_e, rt_0, rt_bz, sv_s, sv_o, ur_s, ur_e, ur_o, bz_T, bz_F, nat_eqF, Nat.reduceAdd]
  · simp (disch := first | decide | omega | (simp (disch := first | decide | omega) only [sv_s, sv_o, ur_s, ur_e, ur_o]; omega)) only [↓reduceIte, iv_add, iv_sub, iv_mul, iv_neg, iv_ltT, iv_ltF, iv_leT, iv_leF, iv_eqT, iv_eqF, iv_div, iv_mod, ↓bnI_s, ↓bnV_s, ↓bnJ_s, ↓bnR_s, rt_e, rt_0, rt_bz, sv_s, sv_o, ur_s, ur_e, ur_o, bz_T, bz_F, nat_eqF, Nat.reduceAdd]
theorem frT_own {k x : Int} (hk : k ≠ 5) : frT t V (sv V t k x) := ⟨fun a h1 h2 => by simp (disch := first | decide | omega | (simp (disch := first | decide | omega) only [sv_s, sv_o, ur_s, ur_e, ur_o]; omega)) only [↓reduceIte, iv_add, iv_sub, iv_mul, iv_neg, iv_ltT, iv_ltF, iv_leT, iv_leF, iv_eqT, iv_eqF, iv_div, iv_mod, ↓bnI_s, ↓bnV_s, ↓bnJ_s, ↓bnR_s, rt_e, rt_0, rt_bz, sv_s, sv_o, ur_s, ur_e, ur_o, bz_T, bz_F, nat_eqF, Nat.reduceAdd], by simp (disch := first | decide | omega | (simp (disch := first | decide | omega) only [sv_s, sv_o, ur_s, ur_e, ur_o]; omega)) only [↓reduceIte, iv_add, iv_sub, iv_mul, iv_neg, iv_ltT, iv_ltF, iv_leT, iv_leF, iv_eqT, iv_eqF, iv_div, iv_mod, ↓bnI_s, ↓bnV_s, ↓bnJ_s, ↓bnR_s, rt_e, rt_0, rt_bz, sv_s, sv_o, ur_s, ur_e, ur_o, bz_T, bz_F, nat_eqF, Nat.reduceAdd], by simp (disch := first | decide | omega | (simp (disch := first | decide | omega) only [sv_s, sv_o, ur_s, ur_e, ur_o]; omega)) only [↓reduceIte, iv_add, iv_sub, iv_mul, iv_neg, iv_ltT, iv_ltF, iv_leT, iv_leF, iv_eqT, iv_eqF, iv_div, iv_mod, ↓bnI_s, ↓bnV_s, ↓bnJ_s, ↓bnR_s, rt_e, rt_0, rt_bz, sv_s, sv_o, ur_s, ur_e, ur_o, bz_T, bz_F, nat_eqF, Nat.reduceAdd]⟩
theorem Kn_same (h : Kn V t A) (e : ∀ a, a ≠ 418 → V' a = V a) (ht : t + 6 ≤ 418) : Kn V' t A :=
  Kn_c (e _ (by omega)) (e _ (by omega)) (e _ (by omega)) (e _ (by omega)) (e _ (by omega)) (e _ (by omega)) rfl (fun _ _ _ => rfl) (fun _ _ _ => rfl) h
theorem frT_same (e : ∀ a, a ≠ 418 → V' a = V a) (ht : t + 6 ≤ 418) : frT t V V' := ⟨fun a h1 _ => e a h1, by rw [e t (by omega)], e _ (by omega)⟩
theorem frT.law (h : frT t V V') (ht : t + 6 ≤ 418) (l : ∀ a, 450 < a → V a = V0 a) : ∀ a, 450 < a → V' a = V0 a := fun a ha => (h.1 a (by omega) (by omega)).trans (l a ha)
/-- one asked whether it reaches -/
theorem y_pass1 (F : Fix z) (T : Tab z t) (ht : t + 6 ≤ 418) (L : Lw z V0 q i rv bv) (h : Kn V t A) (l : ∀ a, 450 < a → V a = V0 a) (hi : A 2 = i) {s : Int} (hs : 0 ≤ s ∧ s < A 0) : ∃ A' V', rX m_Table_passDinner m_Table_passDinner 2 [.ref t, .ref q, .ref 417, .int (iv s), dd, dd] [] (em V J z) = rX m_Table_passDinner m_Table_passDinner 2 [.ref t, .ref q, .ref 417, .int (iv (s + 1)), dd, dd] [] (em V' J z) ∧ Kn V' t A' ∧ frT t V V' ∧ rfP A A' ∧ A' 7 = A 7 ∧ ∀ w B U K, RW w B U A → U 438 = V0 438 → ∃ U' K', rX m_M_pass m_M_pass 2 [.ref 435, .int (iv s), dd] [] (em U K z) = rX m_M_pass m_M_pass 2 [.ref 435, .int (iv (s + 1)), dd] [] (em U' K' z) ∧ RW w B U' A' ∧ frM U U' ∧ U' 435 24 = U 435 24 := by
  have p := h.ps
  have n1 := h.1
  have n2 := h.2.1
  have wk := (p.wt_ hs).1
  have e4 := Tr.at n2 h.2.2.2 hs
  have e6 := h.2.2.2.2.2.1.1
  have e8 := h.2.2.2.2.2.2.2.1
  have ew : ∀ w B U K, RW w B U A → cA m_M_whoAt [.ref 435, .int (iv s)] (em U K z) = some (.int (iv (wat A s)), em U K z) := fun w B U K hU => y_whoAtA F p (hU.1 0 (by omega)) (fun j j0 j1 => hU.1 j (by omega)) hs
  generalize hk : wat A s = k at *
  have hk6 : 0 ≤ k ∧ k < 6 := by omega
  have es := y_isStrapped (V := V) (J := J) T (k := k)
  rw [e6] at es
  by_cases sq : sb (A 10) k
  · rw [bz_T sq] at es
    refine ⟨A, V, ?_, h, frT.rfl_, rfP.rfl_, rfl, fun w B U K hU _ => ⟨U, K, ?_, hU, frM.rfl_, rfl⟩⟩
    · (rw [q_Table_passDinner_2]; simp (disch := first | decide | omega | (simp (disch := first | decide | omega) only [sv_s, sv_o, ur_s, ur_e, ur_o]; omega)) only [↓reduceIte, iv_add, iv_sub, iv_mul, iv_neg, iv_ltT, iv_ltF, iv_leT, iv_leF, iv_eqT, iv_eqF, iv_div, iv_mod, ↓bnI_s, ↓bnV_s, ↓bnJ_s, ↓bnR_s, rt_e, rt_0, rt_bz, sv_s, sv_o, ur_s, ur_e, ur_o, bz_T, bz_F, nat_eqF, Nat.reduceAdd, ↓gT_5 T, ↓rT_3 T, il_0, il_1, il_2, il_3, il_5, il_6, il_7, il_10, il_71, n1, y_get T.s4 (by decide), rd_in, e4, es])
    · have u0 : U 436 0 = A 0 := hU.1 0 (by omega)
      have em2 : cA m_M_isStrapped [.ref 435, .int (iv k)] (em U K z) = some (.int (iv 1), em U K z) := by
        rw [y_M_isStrapped F, hU.1 10 (by omega), bz_T sq]
      (rw [q_M_pass_2]; simp (disch := first | decide | omega | (simp (disch := first | decide | omega) only [sv_s, sv_o, ur_s, ur_e, ur_o]; omega)) only [↓reduceIte, iv_add, iv_sub, iv_mul, iv_neg, iv_ltT, iv_ltF, iv_leT, iv_leF, iv_eqT, iv_eqF, iv_div, iv_mod, ↓bnI_s, ↓bnV_s, ↓bnJ_s, ↓bnR_s, rt_e, rt_0, rt_bz, sv_s, sv_o, ur_s, ur_e, ur_o, bz_T, bz_F, nat_eqF, Nat.reduceAdd, ↓gR_435_0 F, ↓lI_436 F, ↓lI_437 F, ↓lI_438 F, ↓lI_439 F, ↓lI_440 F, ↓lI_441 F, ↓lI_443 F, ↓lI_444 F, ↓lI_445 F, ↓lI_446 F, ↓lI_447 F, ↓lI_448 F, ↓lI_449 F, ↓lI_450 F, il_0, il_1, il_2, il_10, il_11, il_59, u0, ew w B U K hU, em2])
  · rw [bz_F sq] at es
    obtain ⟨x, hx⟩ : ∃ x, x = A 8 := ⟨_, rfl⟩
    obtain ⟨y, hy⟩ : ∃ y, y = (x * 673 + 547) % 30971 := ⟨_, rfl⟩
    rw [← hx] at e8
    have y0 : 0 ≤ y ∧ y < 30971 := by omega
    have dr := y_draw (V := V) (J := J) T e8.1 e8.2
    rw [← hy] at dr
    have h1 := Kn_drawn h y0
    have z0 : ur A 8 y 0 = A 0 := ur_o (by omega)
    have l1 : ∀ a, 450 < a → (sv V t 8 y) a = V0 a := fun a ha => by simp (disch := first | decide | omega | (simp (disch := first | decide | omega) only [sv_s, sv_o, ur_s, ur_e, ur_o]; omega)) only [↓reduceIte, iv_add, iv_sub, iv_mul, iv_neg, iv_ltT, iv_ltF, iv_leT, iv_leF, iv_eqT, iv_eqF, iv_div, iv_mod, ↓bnI_s, ↓bnV_s, ↓bnJ_s, ↓bnR_s, rt_e, rt_0, rt_bz, sv_s, sv_o, ur_s, ur_e, ur_o, bz_T, bz_F, nat_eqF, Nat.reduceAdd, l a ha]
    obtain ⟨r0, _, lx, lm⟩ := L (ur A 8 y) k ⟨_, _, h1⟩ wk.1 (by rw [z0]; exact wk.2)
    obtain ⟨⟨V2, e2, f2⟩, _⟩ := lx (sv V t 8 y) J t l1 T ht h1
    have h2 := Kn_same h1 f2 ht
    have fr2 : frT t V V2 := (frT_own (by decide)).tr (frT_same f2 ht)
    generalize hr : rv (ur A 8 y) k = r at *
    have um : ∀ w B U K, RW w B U A → U 438 = V0 438 → ∃ U2 K2, cA m_M_drawnBy [.ref 435, .int (iv 10)] (em U K z) = some (.int (iv (x % 10)), em (sv U 436 8 y) K z) ∧ cA m_M_reachesOf [.ref 435, .int (iv i), .int (iv k)] (em (sv U 436 8 y) K z) = some (.int (iv r), em U2 K2 z) ∧ RW w B U2 (ur A 8 y) ∧ frM U U2 ∧ U2 435 24 = U 435 24 := by
      intro w B U K hU h438
      obtain ⟨⟨U2, K2, g1, g2, g3, g4⟩, _⟩ := lm (sv U 436 8 y) K w B (hU.u (by omega)) (by simp (disch := first | decide | omega | (simp (disch := first | decide | omega) only [sv_s, sv_o, ur_s, ur_e, ur_o]; omega)) only [↓reduceIte, iv_add, iv_sub, iv_mul, iv_neg, iv_ltT, iv_ltF, iv_leT, iv_leF, iv_eqT, iv_eqF, iv_div, iv_mod, ↓bnI_s, ↓bnV_s, ↓bnJ_s, ↓bnR_s, rt_e, rt_0, rt_bz, sv_s, sv_o, ur_s, ur_e, ur_o, bz_T, bz_F, nat_eqF, Nat.reduceAdd, h438])
      have d := y_drawnBy (V := U) (J := K) F ((hU.1 8 (by omega)).trans hx.symm) e8.2
      rw [← hy] at d
      exact ⟨U2, K2, d, g1, (hU.u (by omega)).fr g3, frM.u.tr g2, by rw [g4]; simp (disch := first | decide | omega | (simp (disch := first | decide | omega) only [sv_s, sv_o, ur_s, ur_e, ur_o]; omega)) only [↓reduceIte, iv_add, iv_sub, iv_mul, iv_neg, iv_ltT, iv_ltF, iv_leT, iv_leF, iv_eqT, iv_eqF, iv_div, iv_mod, ↓bnI_s, ↓bnV_s, ↓bnJ_s, ↓bnR_s, rt_e, rt_0, rt_bz, sv_s, sv_o, ur_s, ur_e, ur_o, bz_T, bz_F, nat_eqF, Nat.reduceAdd]⟩
    have em2 : ∀ w B U K, RW w B U A → cA m_M_isStrapped [.ref 435, .int (iv k)] (em U K z) = some (.int (iv 0), em U K z) := fun w B U K hU => by
      rw [y_M_isStrapped F, hU.1 10 (by omega), bz_F sq]
    by_cases lt : x % 10 < r
    · obtain ⟨d1, d2, d3, d4, d5⟩ := h2.2.2.2.1 k wk.1 (by rw [z0]; exact wk.2)
      obtain ⟨b, hb⟩ : ∃ b, b = min (ur A 8 y (11 + k) + 1) 99 := ⟨_, rfl⟩
      have b0 : 0 ≤ b ∧ b ≤ 99 := by omega
      have ko := y_keepOne (V := V2) (J := J) T hk6 d1 d4
      rw [← hb] at ko
      refine ⟨ur (ur A 8 y) (11 + k) b, sv V2 (t + 2) k b, ?_, Kn_kept h2 (by rw [z0]; exact wk) b0, fr2.tr frT_kept, rfP.tr (fun j hj => ur_o (by omega)) (rfP_kept hk6), by rw [ur_o (by omega), ur_o (by decide)], fun w B U K hU h438 => ?_⟩
      · (rw [q_Table_passDinner_2]; simp (disch := first | decide | omega | (simp (disch := first | decide | omega) only [sv_s, sv_o, ur_s, ur_e, ur_o]; omega)) only [↓reduceIte, iv_add, iv_sub, iv_mul, iv_neg, iv_ltT, iv_ltF, iv_leT, iv_leF, iv_eqT, iv_eqF, iv_div, iv_mod, ↓bnI_s, ↓bnV_s, ↓bnJ_s, ↓bnR_s, rt_e, rt_0, rt_bz, sv_s, sv_o, ur_s, ur_e, ur_o, bz_T, bz_F, nat_eqF, Nat.reduceAdd, ↓gT_5 T, ↓rT_3 T, il_0, il_1, il_2, il_3, il_5, il_6, il_7, il_10, il_71, n1, y_get T.s4 (by decide), rd_in, e4, es, dr, e2, ko])
      · obtain ⟨U2, K2, g1, g2, g3, g4, g5⟩ := um w B U K hU h438
        have u0 : U 436 0 = A 0 := hU.1 0 (by omega)
        have u2 : U 436 2 = i := (hU.1 2 (by omega)).trans hi
        have mo := y_more (V := U2) (J := K2) F hk6 (g3.1 (11 + k) (by omega)) d4
        rw [← hb] at mo
        refine ⟨sv U2 436 (11 + k) b, K2, ?_, g3.u (by omega), g4.tr frM.u, by simp (disch := first | decide | omega | (simp (disch := first | decide | omega) only [sv_s, sv_o, ur_s, ur_e, ur_o]; omega)) only [↓reduceIte, iv_add, iv_sub, iv_mul, iv_neg, iv_ltT, iv_ltF, iv_leT, iv_leF, iv_eqT, iv_eqF, iv_div, iv_mod, ↓bnI_s, ↓bnV_s, ↓bnJ_s, ↓bnR_s, rt_e, rt_0, rt_bz, sv_s, sv_o, ur_s, ur_e, ur_o, bz_T, bz_F, nat_eqF, Nat.reduceAdd, g5]⟩
        (rw [q_M_pass_2]; simp (disch := first | decide | omega | (simp (disch := first | decide | omega) only [sv_s, sv_o, ur_s, ur_e, ur_o]; omega)) only [↓reduceIte, iv_add, iv_sub, iv_mul, iv_neg, iv_ltT, iv_ltF, iv_leT, iv_leF, iv_eqT, iv_eqF, iv_div, iv_mod, ↓bnI_s, ↓bnV_s, ↓bnJ_s, ↓bnR_s, rt_e, rt_0, rt_bz, sv_s, sv_o, ur_s, ur_e, ur_o, bz_T, bz_F, nat_eqF, Nat.reduceAdd, ↓gR_435_0 F, ↓lI_436 F, ↓lI_437 F, ↓lI_438 F, ↓lI_439 F, ↓lI_440 F, ↓lI_441 F, ↓lI_443 F, ↓lI_444 F, ↓lI_445 F, ↓lI_446 F, ↓lI_447 F, ↓lI_448 F, ↓lI_449 F, ↓lI_450 F, il_0, il_1, il_2, il_10, il_11, il_59, u0, u2, ew w B U K hU, em2 w B U K hU, g1, g2, mo])
    · refine ⟨ur A 8 y, V2, ?_, h2, fr2, (fun j hj => ur_o (by omega)), ur_o (by decide), fun w B U K hU h438 => ?_⟩
      · (rw [q_Table_passDinner_2]; simp (disch := first | decide | omega | (simp (disch := first | decide | omega) only [sv_s, sv_o, ur_s, ur_e, ur_o]; omega)) only [↓reduceIte, iv_add, iv_sub, iv_mul, iv_neg, iv_ltT, iv_ltF, iv_leT, iv_leF, iv_eqT, iv_eqF, iv_div, iv_mod, ↓bnI_s, ↓bnV_s, ↓bnJ_s, ↓bnR_s, rt_e, rt_0, rt_bz, sv_s, sv_o, ur_s, ur_e, ur_o, bz_T, bz_F, nat_eqF, Nat.reduceAdd, ↓gT_5 T, ↓rT_3 T, il_0, il_1, il_2, il_3, il_5, il_6, il_7, il_10, il_71, n1, y_get T.s4 (by decide), rd_in, e4, es, dr, e2])
      · obtain ⟨U2, K2, g1, g2, g3, g4, g5⟩ := um w B U K hU h438
        have u0 : U 436 0 = A 0 := hU.1 0 (by omega)
        have u2 : U 436 2 = i := (hU.1 2 (by omega)).trans hi
        refine ⟨U2, K2, ?_, g3, g4, g5⟩
        (rw [q_M_pass_2]; simp (disch := first | decide | omega | (simp (disch := first | decide | omega) only [sv_s, sv_o, ur_s, ur_e, ur_o]; omega)) only [↓reduceIte, iv_add, iv_sub, iv_mul, iv_neg, iv_ltT, iv_ltF, iv_leT, iv_leF, iv_eqT, iv_eqF, iv_div, iv_mod, ↓bnI_s, ↓bnV_s, ↓bnJ_s, ↓bnR_s, rt_e, rt_0, rt_bz, sv_s, sv_o, ur_s, ur_e, ur_o, bz_T, bz_F, nat_eqF, Nat.reduceAdd, ↓gR_435_0 F, ↓lI_436 F, ↓lI_437 F, ↓lI_438 F, ↓lI_439 F, ↓lI_440 F, ↓lI_441 F, ↓lI_443 F, ↓lI_444 F, ↓lI_445 F, ↓lI_446 F, ↓lI_447 F, ↓lI_448 F, ↓lI_449 F, ↓lI_450 F, il_0, il_1, il_2, il_10, il_11, il_59, u0, u2, ew w B U K hU, em2 w B U K hU, g1, g2])
theorem y_pass1s (F : Fix z) (T : Tab z t) (ht : t + 6 ≤ 418) (L : Lw z V0 q i rv bv) : ∀ (m : Nat) (V : Vm) (A : Int → Int) (s : Int), Kn V t A → (∀ a, 450 < a → V a = V0 a) → A 2 = i → 0 ≤ s → s + m = A 0 → ∃ A' V', rX m_Table_passDinner m_Table_passDinner 2 [.ref t, .ref q, .ref 417, .int (iv s), dd, dd] [] (em V J z) = rX m_Table_passDinner m_Table_passDinner 71 [.ref t, .ref q, .ref 417, .int (iv 0), .int (iv 0), dd] [] (em V' J z) ∧ Kn V' t A' ∧ frT t V V' ∧ rfP A A' ∧ A' 7 = A 7 ∧ ∀ w B U K, RW w B U A → U 438 = V0 438 → ∃ U' K', rX m_M_pass m_M_pass 2 [.ref 435, .int (iv s), dd] [] (em U K z) = rX m_M_pass m_M_pass 59 [.ref 435, .int (iv 0), dd] [] (em U' K' z) ∧ RW w B U' A' ∧ frM U U' ∧ U' 435 24 = U 435 24 := by
  intro m
  induction m with
  | zero =>
    intro V A s h l hi s0 hs
    have n1 := h.1
    have n2 := h.2.1
    refine ⟨A, V, ?_, h, frT.rfl_, rfP.rfl_, rfl, fun w B U K hU _ => ⟨U, K, ?_, hU, frM.rfl_, rfl⟩⟩
    · (rw [q_Table_passDinner_2]; simp (disch := first | decide | omega | (simp (disch := first | decide | omega) only [sv_s, sv_o, ur_s, ur_e, ur_o]; omega)) only [↓reduceIte, iv_add, iv_sub, iv_mul, iv_neg, iv_ltT, iv_ltF, iv_leT, iv_leF, iv_eqT, iv_eqF, iv_div, iv_mod, ↓bnI_s, ↓bnV_s, ↓bnJ_s, ↓bnR_s, rt_e, rt_0, rt_bz, sv_s, sv_o, ur_s, ur_e, ur_o, bz_T, bz_F, nat_eqF, Nat.reduceAdd, ↓gT_5 T, ↓rT_3 T, il_0, il_1, il_2, il_3, il_5, il_6, il_7, il_10, il_71, n1])
    · have u0 : U 436 0 = A 0 := hU.1 0 (by omega)
      (rw [q_M_pass_2]; simp (disch := first | decide | omega | (simp (disch := first | decide | omega) only [sv_s, sv_o, ur_s, ur_e, ur_o]; omega)) only [↓reduceIte, iv_add, iv_sub, iv_mul, iv_neg, iv_ltT, iv_ltF, iv_leT, iv_leF, iv_eqT, iv_eqF, iv_div, iv_mod, ↓bnI_s, ↓bnV_s, ↓bnJ_s, ↓bnR_s, rt_e, rt_0, rt_bz, sv_s, sv_o, ur_s, ur_e, ur_o, bz_T, bz_F, nat_eqF, Nat.reduceAdd, ↓gR_435_0 F, ↓lI_436 F, ↓lI_437 F, ↓lI_438 F, ↓lI_439 F, ↓lI_440 F, ↓lI_441 F, ↓lI_443 F, ↓lI_444 F, ↓lI_445 F, ↓lI_446 F, ↓lI_447 F, ↓lI_448 F, ↓lI_449 F, ↓lI_450 F, il_0, il_1, il_2, il_10, il_11, il_59, u0])
  | succ m ih =>
    intro V A s h l hi s0 hs
    obtain ⟨A1, V1, a1, a2, a3, a4, a5, a6⟩ := y_pass1 (J := J) F T ht L h l hi (s := s) (by omega)
    obtain ⟨A2, V2, b1, b2, b3, b4, b5, b6⟩ := ih V1 A1 (s + 1) a2 (a3.law ht l) ((a4 2 (by omega)).trans hi) (by omega) (by rw [a4 0 (by omega)]; omega)
    refine ⟨A2, V2, a1.trans b1, b2, a3.tr b3, a4.tr b4, b5.trans a5, fun w B U K hU h438 => ?_⟩
    obtain ⟨U1, K1, c1, c2, c3, c4⟩ := a6 w B U K hU h438
    obtain ⟨U2, K2, d1, d2, d3, d4⟩ := b6 w B U1 K1 c2 ((funext fun k => c3 438 k (Or.inl (scr_F (by omega))) (by decide)).trans h438)
    exact ⟨U2, K2, c1.trans d1, d2, c3.tr d3, d4.trans c4⟩
/-- one asked whether it bears it -/
theorem y_pass2 (F : Fix z) (T : Tab z t) (ht : t + 6 ≤ 418) (L : Lw z V0 q i rv bv) (hw : w = 0 ∨ w = 1) (h : Kn V t A) (l : ∀ a, 450 < a → V a = V0 a) (hi : A 2 = i) {s c : Int} (hs : 0 ≤ s ∧ s < A 0) : ∃ (A' : Int → Int) (V' : Vm) (d : Int), (d = 0 ∨ d = 1) ∧ rX m_Table_passDinner m_Table_passDinner 71 [.ref t, .ref q, .ref 417, .int (iv c), .int (iv s), dd] [] (em V J z) = rX m_Table_passDinner m_Table_passDinner 71 [.ref t, .ref q, .ref 417, .int (iv (c + d)), .int (iv (s + 1)), dd] [] (em V' J z) ∧ Kn V' t A' ∧ frT t V V' ∧ rfP A A' ∧ A' 7 = A 7 ∧ ∀ B U K, RW w B U A → U 438 = V0 438 → U 435 23 = w → ∃ U' K', rX m_M_pass m_M_pass 59 [.ref 435, .int (iv s), dd] [] (em U K z) = rX m_M_pass m_M_pass 59 [.ref 435, .int (iv (s + 1)), dd] [] (em U' K' z) ∧ RW w B U' A' ∧ frM U U' ∧ U' 435 24 = U 435 24 + d := by
  have p := h.ps
  have n1 := h.1
  have n2 := h.2.1
  have wk := (p.wt_ hs).1
  have e4 := Tr.at n2 h.2.2.2 hs
  have e6 := h.2.2.2.2.2.1.1
  have ew : ∀ B U K, RW w B U A → cA m_M_whoAt [.ref 435, .int (iv s)] (em U K z) = some (.int (iv (wat A s)), em U K z) := fun B U K hU => y_whoAtA F p (hU.1 0 (by omega)) (fun j j0 j1 => hU.1 j (by omega)) hs
  generalize hk : wat A s = k at *
  have hk6 : 0 ≤ k ∧ k < 6 := by omega
  have es := y_isStrapped (V := V) (J := J) T (k := k)
  rw [e6] at es
  by_cases sq : sb (A 10) k
  · rw [bz_T sq] at es
    refine ⟨A, V, 0, Or.inl rfl, ?_, h, frT.rfl_, rfP.rfl_, rfl, fun B U K hU _ _ => ⟨U, K, ?_, hU, frM.rfl_, by omega⟩⟩
    · rw [Int.add_zero]
      (rw [q_Table_passDinner_71]; simp (disch := first | decide | omega | (simp (disch := first | decide | omega) only [sv_s, sv_o, ur_s, ur_e, ur_o]; omega)) only [↓reduceIte, iv_add, iv_sub, iv_mul, iv_neg, iv_ltT, iv_ltF, iv_leT, iv_leF, iv_eqT, iv_eqF, iv_div, iv_mod, ↓bnI_s, ↓bnV_s, ↓bnJ_s, ↓bnR_s, rt_e, rt_0, rt_bz, sv_s, sv_o, ur_s, ur_e, ur_o, bz_T, bz_F, nat_eqF, Nat.reduceAdd, ↓gT_5 T, ↓rT_3 T, ↓rT_1 T, ↓gT_7 T, ↓pT_7 T, il_0, il_1, il_3, il_5, il_6, il_7, il_71, n1, y_get T.s4 (by decide), rd_in, e4, es])
    · have u0 : U 436 0 = A 0 := hU.1 0 (by omega)
      have em2 : cA m_M_isStrapped [.ref 435, .int (iv k)] (em U K z) = some (.int (iv 1), em U K z) := by
        rw [y_M_isStrapped F, hU.1 10 (by omega), bz_T sq]
      (rw [q_M_pass_59]; simp (disch := first | decide | omega | (simp (disch := first | decide | omega) only [sv_s, sv_o, ur_s, ur_e, ur_o]; omega)) only [↓reduceIte, iv_add, iv_sub, iv_mul, iv_neg, iv_ltT, iv_ltF, iv_leT, iv_leF, iv_eqT, iv_eqF, iv_div, iv_mod, ↓bnI_s, ↓bnV_s, ↓bnJ_s, ↓bnR_s, rt_e, rt_0, rt_bz, sv_s, sv_o, ur_s, ur_e, ur_o, bz_T, bz_F, nat_eqF, Nat.reduceAdd, ↓gR_435_0 F, ↓lI_436 F, ↓lI_437 F, ↓lI_438 F, ↓lI_439 F, ↓lI_440 F, ↓lI_441 F, ↓lI_443 F, ↓lI_444 F, ↓lI_445 F, ↓lI_446 F, ↓lI_447 F, ↓lI_448 F, ↓lI_449 F, ↓lI_450 F, ↓sI_436 F, ↓sI_437 F, ↓sI_438 F, ↓sI_439 F, ↓sI_440 F, ↓sI_441 F, ↓sI_443 F, ↓sI_444 F, ↓sI_445 F, ↓sI_446 F, ↓sI_447 F, ↓sI_448 F, ↓sI_449 F, ↓sI_450 F, il_0, il_1, il_7, il_11, il_59, u0, ew B U K hU, em2])
  · rw [bz_F sq] at es
    obtain ⟨d1, d2, d3, d4, d5⟩ := h.2.2.2.1 k wk.1 wk.2
    obtain ⟨_, b0, lx, lm⟩ := L A k ⟨_, _, h⟩ wk.1 wk.2
    obtain ⟨_, V2, e2, f2⟩ := lx V J t l T ht h
    have h2 := Kn_same h f2 ht
    have fr2 : frT t V V2 := frT_same f2 ht
    generalize hb : bv A k = b at *
    have um : ∀ B U K, RW w B U A → U 438 = V0 438 → ∃ U2 K2, cA m_M_bearsOf [.ref 435, .int (iv k)] (em U K z) = some (.int (iv b), em U2 K2 z) ∧ RW w B U2 A ∧ frM U U2 ∧ U2 435 24 = U 435 24 := by
      intro B U K hU h438
      obtain ⟨U2, K2, g1, g2, g3, g4⟩ := (lm U K w B hU h438).2 hi
      exact ⟨U2, K2, g1, hU.fr g3, g2, g4⟩
    have em2 : ∀ B U K, RW w B U A → cA m_M_isStrapped [.ref 435, .int (iv k)] (em U K z) = some (.int (iv 0), em U K z) := fun B U K hU => by
      rw [y_M_isStrapped F, hU.1 10 (by omega), bz_F sq]
    by_cases lt : b < A (11 + k)
    · obtain ⟨A3, V3, k1, k2, k3, k4, k5, k6⟩ := y_loose (J := J) (w := w) F T h2 wk hw
      refine ⟨A3, V3, 1, Or.inr rfl, ?_, k2, fr2.tr k3, k4, k5, fun B U K hU h438 h23 => ?_⟩
      · (rw [q_Table_passDinner_71]; simp (disch := first | decide | omega | (simp (disch := first | decide | omega) only [sv_s, sv_o, ur_s, ur_e, ur_o]; omega)) only [↓reduceIte, iv_add, iv_sub, iv_mul, iv_neg, iv_ltT, iv_ltF, iv_leT, iv_leF, iv_eqT, iv_eqF, iv_div, iv_mod, ↓bnI_s, ↓bnV_s, ↓bnJ_s, ↓bnR_s, rt_e, rt_0, rt_bz, sv_s, sv_o, ur_s, ur_e, ur_o, bz_T, bz_F, nat_eqF, Nat.reduceAdd, ↓gT_5 T, ↓rT_3 T, ↓rT_1 T, ↓gT_7 T, ↓pT_7 T, il_0, il_1, il_3, il_5, il_6, il_7, il_71, n1, y_get T.s4 (by decide), y_get T.s2 (by decide), rd_in, e4, es, d1, e2, k1])
      · obtain ⟨U2, K2, g1, g2, g3, g4⟩ := um B U K hU h438
        have u0 : U 436 0 = A 0 := hU.1 0 (by omega)
        have u1 : U 436 (11 + k) = A (11 + k) := hU.1 (11 + k) (by omega)
        obtain ⟨U3, m1, m2, m3, m4⟩ := k6 B U2 K2 g2 ((g3 435 23 (Or.inl (scr_F (by omega))) (by decide)).trans h23)
        refine ⟨U3, K2, ?_, m2, g3.tr fun a j sa ha => ?_, by rw [m4, ur_s, g4]⟩
        · (rw [q_M_pass_59]; simp (disch := first | decide | omega | (simp (disch := first | decide | omega) only [sv_s, sv_o, ur_s, ur_e, ur_o]; omega)) only [↓reduceIte, iv_add, iv_sub, iv_mul, iv_neg, iv_ltT, iv_ltF, iv_leT, iv_leF, iv_eqT, iv_eqF, iv_div, iv_mod, ↓bnI_s, ↓bnV_s, ↓bnJ_s, ↓bnR_s, rt_e, rt_0, rt_bz, sv_s, sv_o, ur_s, ur_e, ur_o, bz_T, bz_F, nat_eqF, Nat.reduceAdd, ↓gR_435_0 F, ↓lI_436 F, ↓lI_437 F, ↓lI_438 F, ↓lI_439 F, ↓lI_440 F, ↓lI_441 F, ↓lI_443 F, ↓lI_444 F, ↓lI_445 F, ↓lI_446 F, ↓lI_447 F, ↓lI_448 F, ↓lI_449 F, ↓lI_450 F, ↓sI_436 F, ↓sI_437 F, ↓sI_438 F, ↓sI_439 F, ↓sI_440 F, ↓sI_441 F, ↓sI_443 F, ↓sI_444 F, ↓sI_445 F, ↓sI_446 F, ↓sI_447 F, ↓sI_448 F, ↓sI_449 F, ↓sI_450 F, il_0, il_1, il_7, il_11, il_59, u0, u1, ew B U K hU, em2 B U K hU, g1, m1])
        · by_cases qa : a = 435
          · subst qa
            rw [m4]
            by_cases qj : j = 24
            · subst qj
              exact absurd sa (by rw [scr_T (by omega)]; decide)
            · rw [ur_o qj]
          · rw [m3 a ha qa]
    · refine ⟨A, V2, 0, Or.inl rfl, ?_, h2, fr2, rfP.rfl_, rfl, fun B U K hU h438 _ => ?_⟩
      · rw [Int.add_zero]
        (rw [q_Table_passDinner_71]; simp (disch := first | decide | omega | (simp (disch := first | decide | omega) only [sv_s, sv_o, ur_s, ur_e, ur_o]; omega)) only [↓reduceIte, iv_add, iv_sub, iv_mul, iv_neg, iv_ltT, iv_ltF, iv_leT, iv_leF, iv_eqT, iv_eqF, iv_div, iv_mod, ↓bnI_s, ↓bnV_s, ↓bnJ_s, ↓bnR_s, rt_e, rt_0, rt_bz, sv_s, sv_o, ur_s, ur_e, ur_o, bz_T, bz_F, nat_eqF, Nat.reduceAdd, ↓gT_5 T, ↓rT_3 T, ↓rT_1 T, ↓gT_7 T, ↓pT_7 T, il_0, il_1, il_3, il_5, il_6, il_7, il_71, n1, y_get T.s4 (by decide), y_get T.s2 (by decide), rd_in, e4, es, d1, e2])
      · obtain ⟨U2, K2, g1, g2, g3, g4⟩ := um B U K hU h438
        have u0 : U 436 0 = A 0 := hU.1 0 (by omega)
        have u1 : U 436 (11 + k) = A (11 + k) := hU.1 (11 + k) (by omega)
        refine ⟨U2, K2, ?_, g2, g3, by rw [g4, Int.add_zero]⟩
        (rw [q_M_pass_59]; simp (disch := first | decide | omega | (simp (disch := first | decide | omega) only [sv_s, sv_o, ur_s, ur_e, ur_o]; omega)) only [↓reduceIte, iv_add, iv_sub, iv_mul, iv_neg, iv_ltT, iv_ltF, iv_leT, iv_leF, iv_eqT, iv_eqF, iv_div, iv_mod, ↓bnI_s, ↓bnV_s, ↓bnJ_s, ↓bnR_s, rt_e, rt_0, rt_bz, sv_s, sv_o, ur_s, ur_e, ur_o, bz_T, bz_F, nat_eqF, Nat.reduceAdd, ↓gR_435_0 F, ↓lI_436 F, ↓lI_437 F, ↓lI_438 F, ↓lI_439 F, ↓lI_440 F, ↓lI_441 F, ↓lI_443 F, ↓lI_444 F, ↓lI_445 F, ↓lI_446 F, ↓lI_447 F, ↓lI_448 F, ↓lI_449 F, ↓lI_450 F, ↓sI_436 F, ↓sI_437 F, ↓sI_438 F, ↓sI_439 F, ↓sI_440 F, ↓sI_441 F, ↓sI_443 F, ↓sI_444 F, ↓sI_445 F, ↓sI_446 F, ↓sI_447 F, ↓sI_448 F, ↓sI_449 F, ↓sI_450 F, il_0, il_1, il_7, il_11, il_59, u0, u1, ew B U K hU, em2 B U K hU, g1])
theorem y_pass2s (F : Fix z) (T : Tab z t) (ht : t + 6 ≤ 418) (L : Lw z V0 q i rv bv) (hw : w = 0 ∨ w = 1) : ∀ (m : Nat) (V : Vm) (A : Int → Int) (s c : Int), Kn V t A → (∀ a, 450 < a → V a = V0 a) → A 2 = i → A 7 < 9999 → 0 ≤ s → s + m = A 0 → ∃ (A' : Int → Int) (V' : Vm) (d : Int), (0 ≤ d ∧ d ≤ m) ∧ rX m_Table_passDinner m_Table_passDinner 71 [.ref t, .ref q, .ref 417, .int (iv c), .int (iv s), dd] [] (em V J z) = some (.int (iv (c + d)), em V' J z) ∧ Kn V' t A' ∧ frT t V V' ∧ rfP A A' ∧ A' 7 = A 7 + 1 ∧ ∀ B U K, RW w B U A → U 438 = V0 438 → U 435 23 = w → ∃ U' K', rX m_M_pass m_M_pass 59 [.ref 435, .int (iv s), dd] [] (em U K z) = some (.null, em U' K' z) ∧ RW w B U' A' ∧ frM U U' ∧ U' 435 24 = U 435 24 + d := by
  intro m
  induction m with
  | zero =>
    intro V A s c h l hi h7 s0 hs
    have n1 := h.1
    have n2 := h.2.1
    have e7 := h.2.2.2.2.2.2.1
    have hk : Kn (sv V t 7 (A 7 + 1)) t (ur A 7 (A 7 + 1)) := by
      refine Kn_t h (by simp (disch := first | decide | omega | (simp (disch := first | decide | omega) only [sv_s, sv_o, ur_s, ur_e, ur_o]; omega)) only [↓reduceIte, iv_add, iv_sub, iv_mul, iv_neg, iv_ltT, iv_ltF, iv_leT, iv_leF, iv_eqT, iv_eqF, iv_div, iv_mod, ↓bnI_s, ↓bnV_s, ↓bnJ_s, ↓bnR_s, rt_e, rt_0, rt_bz, sv_s, sv_o, ur_s, ur_e, ur_o, bz_T, bz_F, nat_eqF, Nat.reduceAdd]) (by simp (disch := first | decide | omega | (simp (disch := first | decide | omega) only [sv_s, sv_o, ur_s, ur_e, ur_o]; omega)) only [↓reduceIte, iv_add, iv_sub, iv_mul, iv_neg, iv_ltT, iv_ltF, iv_leT, iv_leF, iv_eqT, iv_eqF, iv_div, iv_mod, ↓bnI_s, ↓bnV_s, ↓bnJ_s, ↓bnR_s, rt_e, rt_0, rt_bz, sv_s, sv_o, ur_s, ur_e, ur_o, bz_T, bz_F, nat_eqF, Nat.reduceAdd]) (ur_o (by omega)) (fun j j0 j1 => ur_o (by omega)) (Tr_own h.2.2.2 h.2.1.2 (Or.inr (Or.inl ⟨rfl, by omega⟩)) ?_ ?_ ?_ ?_ ?_)
      · rw [if_neg (by decide)]; simp (disch := first | decide | omega | (simp (disch := first | decide | omega) only [sv_s, sv_o, ur_s, ur_e, ur_o]; omega)) only [↓reduceIte, iv_add, iv_sub, iv_mul, iv_neg, iv_ltT, iv_ltF, iv_leT, iv_leF, iv_eqT, iv_eqF, iv_div, iv_mod, ↓bnI_s, ↓bnV_s, ↓bnJ_s, ↓bnR_s, rt_e, rt_0, rt_bz, sv_s, sv_o, ur_s, ur_e, ur_o, bz_T, bz_F, nat_eqF, Nat.reduceAdd]
      · simp (disch := first | decide | omega | (simp (disch := first | decide | omega) only [sv_s, sv_o, ur_s, ur_e, ur_o]; omega)) only [↓reduceIte, iv_add, iv_sub, iv_mul, iv_neg, iv_ltT, iv_ltF, iv_leT, iv_leF, iv_eqT, iv_eqF, iv_div, iv_mod, ↓bnI_s, ↓bnV_s, ↓bnJ_s, ↓bnR_s, rt_e, rt_0, rt_bz, sv_s, sv_o, ur_s, ur_e, ur_o, bz_T, bz_F, nat_eqF, Nat.reduceAdd]
      · simp (disch := first | decide | omega | (simp (disch := first | decide | omega) only [sv_s, sv_o, ur_s, ur_e, ur_o]; omega)) only [↓reduceIte, iv_add, iv_sub, iv_mul, iv_neg, iv_ltT, iv_ltF, iv_leT, iv_leF, iv_eqT, iv_eqF, iv_div, iv_mod, ↓bnI_s, ↓bnV_s, ↓bnJ_s, ↓bnR_s, rt_e, rt_0, rt_bz, sv_s, sv_o, ur_s, ur_e, ur_o, bz_T, bz_F, nat_eqF, Nat.reduceAdd]
      · simp (disch := first | decide | omega | (simp (disch := first | decide | omega) only [sv_s, sv_o, ur_s, ur_e, ur_o]; omega)) only [↓reduceIte, iv_add, iv_sub, iv_mul, iv_neg, iv_ltT, iv_ltF, iv_leT, iv_leF, iv_eqT, iv_eqF, iv_div, iv_mod, ↓bnI_s, ↓bnV_s, ↓bnJ_s, ↓bnR_s, rt_e, rt_0, rt_bz, sv_s, sv_o, ur_s, ur_e, ur_o, bz_T, bz_F, nat_eqF, Nat.reduceAdd]
      · simp (disch := first | decide | omega | (simp (disch := first | decide | omega) only [sv_s, sv_o, ur_s, ur_e, ur_o]; omega)) only [↓reduceIte, iv_add, iv_sub, iv_mul, iv_neg, iv_ltT, iv_ltF, iv_leT, iv_leF, iv_eqT, iv_eqF, iv_div, iv_mod, ↓bnI_s, ↓bnV_s, ↓bnJ_s, ↓bnR_s, rt_e, rt_0, rt_bz, sv_s, sv_o, ur_s, ur_e, ur_o, bz_T, bz_F, nat_eqF, Nat.reduceAdd]
    refine ⟨ur A 7 (A 7 + 1), sv V t 7 (A 7 + 1), 0, by omega, ?_, hk, frT_own (by decide), (fun j hj => ur_o (by omega)), ur_s, fun B U K hU _ _ => ⟨sv U 436 7 (A 7 + 1), K, ?_, hU.u (by omega), frM.u, by simp (disch := first | decide | omega | (simp (disch := first | decide | omega) only [sv_s, sv_o, ur_s, ur_e, ur_o]; omega)) only [↓reduceIte, iv_add, iv_sub, iv_mul, iv_neg, iv_ltT, iv_ltF, iv_leT, iv_leF, iv_eqT, iv_eqF, iv_div, iv_mod, ↓bnI_s, ↓bnV_s, ↓bnJ_s, ↓bnR_s, rt_e, rt_0, rt_bz, sv_s, sv_o, ur_s, ur_e, ur_o, bz_T, bz_F, nat_eqF, Nat.reduceAdd]; omega⟩⟩
    · rw [Int.add_zero]
      (rw [q_Table_passDinner_71]; simp (disch := first | decide | omega | (simp (disch := first | decide | omega) only [sv_s, sv_o, ur_s, ur_e, ur_o]; omega)) only [↓reduceIte, iv_add, iv_sub, iv_mul, iv_neg, iv_ltT, iv_ltF, iv_leT, iv_leF, iv_eqT, iv_eqF, iv_div, iv_mod, ↓bnI_s, ↓bnV_s, ↓bnJ_s, ↓bnR_s, rt_e, rt_0, rt_bz, sv_s, sv_o, ur_s, ur_e, ur_o, bz_T, bz_F, nat_eqF, Nat.reduceAdd, ↓gT_5 T, ↓rT_3 T, ↓rT_1 T, ↓gT_7 T, ↓pT_7 T, il_0, il_1, il_3, il_5, il_6, il_7, il_71, n1, e7.1])
    · have u0 : U 436 0 = A 0 := hU.1 0 (by omega)
      have u7 : U 436 7 = A 7 := hU.1 7 (by omega)
      (rw [q_M_pass_59]; simp (disch := first | decide | omega | (simp (disch := first | decide | omega) only [sv_s, sv_o, ur_s, ur_e, ur_o]; omega)) only [↓reduceIte, iv_add, iv_sub, iv_mul, iv_neg, iv_ltT, iv_ltF, iv_leT, iv_leF, iv_eqT, iv_eqF, iv_div, iv_mod, ↓bnI_s, ↓bnV_s, ↓bnJ_s, ↓bnR_s, rt_e, rt_0, rt_bz, sv_s, sv_o, ur_s, ur_e, ur_o, bz_T, bz_F, nat_eqF, Nat.reduceAdd, ↓gR_435_0 F, ↓lI_436 F, ↓lI_437 F, ↓lI_438 F, ↓lI_439 F, ↓lI_440 F, ↓lI_441 F, ↓lI_443 F, ↓lI_444 F, ↓lI_445 F, ↓lI_446 F, ↓lI_447 F, ↓lI_448 F, ↓lI_449 F, ↓lI_450 F, ↓sI_436 F, ↓sI_437 F, ↓sI_438 F, ↓sI_439 F, ↓sI_440 F, ↓sI_441 F, ↓sI_443 F, ↓sI_444 F, ↓sI_445 F, ↓sI_446 F, ↓sI_447 F, ↓sI_448 F, ↓sI_449 F, ↓sI_450 F, il_0, il_1, il_7, il_11, il_59, u0, u7])
  | succ m ih =>
    intro V A s c h l hi h7 s0 hs
    obtain ⟨A1, V1, d1, a0, a1, a2, a3, a4, a5, a6⟩ := y_pass2 (J := J) (c := c) F T ht L hw h l hi (s := s) (by omega)
    obtain ⟨A2, V2, d2, b0, b1, b2, b3, b4, b5, b6⟩ := ih V1 A1 (s + 1) (c + d1) a2 (a3.law ht l) ((a4 2 (by omega)).trans hi) (by omega) (by omega) (by rw [a4 0 (by omega)]; omega)
    refine ⟨A2, V2, d1 + d2, by omega, ?_, b2, a3.tr b3, a4.tr b4, by omega, fun B U K hU h438 h23 => ?_⟩
    · rw [a1, b1, Int.add_assoc]
    · obtain ⟨U1, K1, c1, c2, c3, c4⟩ := a6 B U K hU h438 h23
      obtain ⟨U2, K2, d1, d2, d3, d4⟩ := b6 B U1 K1 c2 ((funext fun k => c3 438 k (Or.inl (scr_F (by omega))) (by decide)).trans h438) ((c3 435 23 (Or.inl (scr_F (by omega))) (by decide)).trans h23)
      exact ⟨U2, K2, c1.trans d1, d2, c3.tr d3, by omega⟩
theorem y_pass (F : Fix z) (T : Tab z t) (ht : t + 6 ≤ 418) (L : Lw z V0 q i rv bv) (hw : w = 0 ∨ w = 1) (h : Kn V t A) (l : ∀ a, 450 < a → V a = V0 a) (hi : A 2 = i) (h7 : A 7 < 9999) : ∃ (A' : Int → Int) (V' : Vm) (d : Int), (0 ≤ d ∧ d ≤ 6) ∧ cA m_Table_passDinner [.ref t, .ref q, .ref 417] (em V J z) = some (.int (iv d), em V' J z) ∧ Kn V' t A' ∧ frT t V V' ∧ rfP A A' ∧ A' 7 = A 7 + 1 ∧ ∀ B U K, RW w B U A → U 438 = V0 438 → U 435 23 = w → ∃ U' K', cA m_M_pass [.ref 435] (em U K z) = some (.null, em U' K' z) ∧ RW w B U' A' ∧ frM U U' ∧ U' 435 24 = U 435 24 + d := by
  have n2 := h.2.1
  obtain ⟨A1, V1, a1, a2, a3, a4, a5, a6⟩ := y_pass1s (J := J) F T ht L (A 0).toNat V A 0 h l hi (by omega) (by omega)
  have z0 := a4 0 (by omega)
  obtain ⟨A2, V2, d, b0, b1, b2, b3, b4, b5, b6⟩ := y_pass2s (J := J) F T ht L hw (A 0).toNat V1 A1 0 0 a2 (a3.law ht l) ((a4 2 (by omega)).trans hi) (by omega) (by omega) (by rw [z0]; omega)
  refine ⟨A2, V2, d, by omega, ?_, b2, a3.tr b3, a4.tr b4, by omega, fun B U K hU h438 h23 => ?_⟩
  · rw [q_Table_passDinner, gdT T, il_0, a1, b1, Int.zero_add]
  · obtain ⟨U1, K1, c1, c2, c3, c4⟩ := a6 w B U K hU h438
    obtain ⟨U2, K2, e1, e2, e3, e4⟩ := b6 B U1 K1 c2 ((funext fun k => c3 438 k (Or.inl (scr_F (by omega))) (by decide)).trans h438) ((c3 435 23 (Or.inl (scr_F (by omega))) (by decide)).trans h23)
    refine ⟨U2, K2, ?_, e2, c3.tr e3, by omega⟩
    rw [q_M_pass, gd_435 F, il_0, c1, e1]
end
