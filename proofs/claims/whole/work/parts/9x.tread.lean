/-! A TEXT: what both read -/
section
variable {V V1 V2 J U K : Vm} {z zm : Zz} {b : Int → Int} {n i0 : Int} {s : Sm}
/-- the class reads -/
theorem t_read (F : Fix z) (G : Fix zm) (B : By V b n) (W : Wsd V) (hi : 0 ≤ i0 ∧ i0 ≤ 3) : ∃ V1 V2 s, cA m_Reader_readTape [.ref 424] (em V J z) = rX m_Reader_readTape m_Reader_readTape 81 [.ref 424, dd] [] (em V2 J z) ∧ (∀ a, (a < 419 ∨ a = 420 ∨ 426 < a) → V2 a = V a) ∧ (∀ k, k ≠ 5 → V2 419 k = V 419 k) ∧ SO s ∧ sE s 0 = 0 ∧ sB s = b ∧ sN s = n ∧ sX s = 681 * i0 ∧ OutT zm s V1 V2 0 0 0 (-1) (-1) := by
  obtain ⟨W0, hW⟩ : ∃ W0, W0 = sv (sv (sv (sv (sv (sv (sv V 424 3 0) 424 4 0) 424 5 (-1)) 424 6 (-1)) 424 8 0) 424 9 0) 424 10 (-1) := ⟨_, rfl⟩
  have o : ∀ a, a ≠ 424 → W0 a = V a := fun a ha => by rw [hW]; simp (disch := first | decide | omega | (simp (disch := first | decide | omega) only [sv_s, sv_o, ur_s, ur_e, ur_o]; omega)) only [↓reduceIte, iv_add, iv_sub, iv_mul, iv_neg, iv_ltT, iv_ltF, iv_leT, iv_leF, iv_eqT, iv_eqF, iv_div, iv_mod, ↓bnI_s, ↓bnV_s, ↓bnJ_s, ↓bnR_s, rt_e, rt_0, rt_bz, sv_s, sv_o, ur_s, ur_e, ur_o, bz_T, bz_F, nat_eqF, Nat.reduceAdd]
  have B0 : By W0 b n := by
    unfold By at *
    rw [o 419 (by decide), o 420 (by decide)]; exact B
  have W1 : Wsd W0 := by
    unfold Wsd at *
    rw [o 3 (by decide), o 2 (by decide), o 5 (by decide), o 4 (by decide)]; exact W
  obtain ⟨V1, E, e, c1, c2, c3, c4, c5, c6⟩ := y_cut (J := J) F B0 W1
  have bn := B.2.2.1
  obtain ⟨s, hs⟩ : ∃ s : Sm, s = (b, V1 421, V1 422, V1 423, E, n, e, 681 * i0, 0) := ⟨_, rfl⟩
  have S : SO s := by
    rw [hs]
    exact ⟨⟨c5.1, c5.2, bn.2⟩, ⟨by show 0 ≤ 681 * i0; omega, by show 681 * i0 ≤ 2043; omega⟩, Or.inl rfl, fun j j0 j1 => c6 j j0 j1⟩
  have v424 : V1 424 = W0 424 := c2.1 424 (by decide) (by decide) (by decide) (by decide)
  have C : Cc V1 s 0 0 0 (-1) (-1) := by
    unfold Cc Cs
    rw [hs, v424, hW]
    exact ⟨⟨rfl, rfl, rfl, c4⟩, by simp (disch := first | decide | omega | (simp (disch := first | decide | omega) only [sv_s, sv_o, ur_s, ur_e, ur_o]; omega)) only [↓reduceIte, iv_add, iv_sub, iv_mul, iv_neg, iv_ltT, iv_ltF, iv_leT, iv_leF, iv_eqT, iv_eqF, iv_div, iv_mod, ↓bnI_s, ↓bnV_s, ↓bnJ_s, ↓bnR_s, rt_e, rt_0, rt_bz, sv_s, sv_o, ur_s, ur_e, ur_o, bz_T, bz_F, nat_eqF, Nat.reduceAdd], by simp (disch := first | decide | omega | (simp (disch := first | decide | omega) only [sv_s, sv_o, ur_s, ur_e, ur_o]; omega)) only [↓reduceIte, iv_add, iv_sub, iv_mul, iv_neg, iv_ltT, iv_ltF, iv_leT, iv_leF, iv_eqT, iv_eqF, iv_div, iv_mod, ↓bnI_s, ↓bnV_s, ↓bnJ_s, ↓bnR_s, rt_e, rt_0, rt_bz, sv_s, sv_o, ur_s, ur_e, ur_o, bz_T, bz_F, nat_eqF, Nat.reduceAdd], by simp (disch := first | decide | omega | (simp (disch := first | decide | omega) only [sv_s, sv_o, ur_s, ur_e, ur_o]; omega)) only [↓reduceIte, iv_add, iv_sub, iv_mul, iv_neg, iv_ltT, iv_ltF, iv_leT, iv_leF, iv_eqT, iv_eqF, iv_div, iv_mod, ↓bnI_s, ↓bnV_s, ↓bnJ_s, ↓bnR_s, rt_e, rt_0, rt_bz, sv_s, sv_o, ur_s, ur_e, ur_o, bz_T, bz_F, nat_eqF, Nat.reduceAdd], by simp (disch := first | decide | omega | (simp (disch := first | decide | omega) only [sv_s, sv_o, ur_s, ur_e, ur_o]; omega)) only [↓reduceIte, iv_add, iv_sub, iv_mul, iv_neg, iv_ltT, iv_ltF, iv_leT, iv_leF, iv_eqT, iv_eqF, iv_div, iv_mod, ↓bnI_s, ↓bnV_s, ↓bnJ_s, ↓bnR_s, rt_e, rt_0, rt_bz, sv_s, sv_o, ur_s, ur_e, ur_o, bz_T, bz_F, nat_eqF, Nat.reduceAdd], by simp (disch := first | decide | omega | (simp (disch := first | decide | omega) only [sv_s, sv_o, ur_s, ur_e, ur_o]; omega)) only [↓reduceIte, iv_add, iv_sub, iv_mul, iv_neg, iv_ltT, iv_ltF, iv_leT, iv_leF, iv_eqT, iv_eqF, iv_div, iv_mod, ↓bnI_s, ↓bnV_s, ↓bnJ_s, ↓bnR_s, rt_e, rt_0, rt_bz, sv_s, sv_o, ur_s, ur_e, ur_o, bz_T, bz_F, nat_eqF, Nat.reduceAdd], by simp (disch := first | decide | omega | (simp (disch := first | decide | omega) only [sv_s, sv_o, ur_s, ur_e, ur_o]; omega)) only [↓reduceIte, iv_add, iv_sub, iv_mul, iv_neg, iv_ltT, iv_ltF, iv_leT, iv_leF, iv_eqT, iv_eqF, iv_div, iv_mod, ↓bnI_s, ↓bnV_s, ↓bnJ_s, ↓bnR_s, rt_e, rt_0, rt_bz, sv_s, sv_o, ur_s, ur_e, ur_o, bz_T, bz_F, nat_eqF, Nat.reduceAdd], by simp (disch := first | decide | omega | (simp (disch := first | decide | omega) only [sv_s, sv_o, ur_s, ur_e, ur_o]; omega)) only [↓reduceIte, iv_add, iv_sub, iv_mul, iv_neg, iv_ltT, iv_ltF, iv_leT, iv_leF, iv_eqT, iv_eqF, iv_div, iv_mod, ↓bnI_s, ↓bnV_s, ↓bnJ_s, ↓bnR_s, rt_e, rt_0, rt_bz, sv_s, sv_o, ur_s, ur_e, ur_o, bz_T, bz_F, nat_eqF, Nat.reduceAdd]⟩
  have sm0 : 0 ≤ sM s := by rw [hs]; exact c5.1
  obtain ⟨V2, l1, l2, l3⟩ := y_tape_l F G S J (sM s).toNat V1 0 0 0 (-1) (-1) 0 C (by omega) (by omega) (by omega) (by omega) (by omega) (by omega)
  refine ⟨V1, V2, s, ?_, fun a ha => ?_, fun k hk => ?_, S, by rw [hs]; exact c3, by rw [hs]; rfl, by rw [hs]; rfl, by rw [hs]; rfl, l3⟩
  · rw [← l1]
    rw [hW] at c1
    simp (disch := first | decide | omega | (simp (disch := first | decide | omega) only [sv_s, sv_o, ur_s, ur_e, ur_o]; omega)) only [↓reduceIte, iv_add, iv_sub, iv_mul, iv_neg, iv_ltT, iv_ltF, iv_leT, iv_leF, iv_eqT, iv_eqF, iv_div, iv_mod, ↓bnI_s, ↓bnV_s, ↓bnJ_s, ↓bnR_s, rt_e, rt_0, rt_bz, sv_s, sv_o, ur_s, ur_e, ur_o, bz_T, bz_F, nat_eqF, Nat.reduceAdd, ↓q_Reader_readTape, ↓gR_424_0 F, ↓pI_424_3 F, ↓pI_424_4 F, ↓pI_424_5 F, ↓pI_424_6 F, ↓pI_424_8 F, ↓pI_424_9 F, ↓pI_424_10 F, ↓gd_424 F, il_0, il_1, il_3, il_4, il_5, il_6, il_8, il_9, il_10, il_20, il_44, c1]
  · rw [l2 a (by omega) (by omega) (by omega), c2.1 a (by omega) (by omega) (by omega) (by omega), o a (by omega)]
  · rw [l2 419 (by omega) (by omega) (by omega), c2.2 k hk, o 419 (by decide)]
/-- the model reads -/
theorem t_modl (G : Fix zm) (S : SO s) (B : B2 U (sB s) (sN s)) (h1 : U 436 1 = i0) (hX : sX s = 681 * i0) (hi : 0 ≤ i0 ∧ i0 ≤ 3) (e0 : sE s 0 = 0) (O : OutT zm s V1 V2 0 0 0 (-1) (-1)) : (∃ n' c' ra' ba', Cc V2 s (sM s) n' c' ra' ba' ∧ ∃ U' K' w' on', cA m_M_readText [.ref 435] (em U K zm) = some (.int (iv 0), em U' K' zm) ∧ Uc U' K' s (sM s) n' w' on' ∧ Rt V2 U' s (sM s) n' c' w' ra' ba' on' ∧ frW s U U') ∨ ∃ j f, Cd V2 s f (sP s j) ∧ (0 ≤ j ∧ j ≤ sM s) ∧ ∃ U' K', cA m_M_readText [.ref 435] (em U K zm) = some (.int (iv f), em U' K' zm) ∧ U' 435 8 = sP s j ∧ frW s U U' := by
  obtain ⟨W, hW⟩ : ∃ W, W = sv (sv (sv (sv (sv U 435 12 (681 * i0)) 438 (681 * i0) 0) 435 13 0) 435 19 0) 435 7 0 := ⟨_, rfl⟩
  have fW : frW s U W := by
    refine ⟨fun a h1 h2 h3 => by rw [hW]; simp (disch := first | decide | omega | (simp (disch := first | decide | omega) only [sv_s, sv_o, ur_s, ur_e, ur_o]; omega)) only [↓reduceIte, iv_add, iv_sub, iv_mul, iv_neg, iv_ltT, iv_ltF, iv_leT, iv_leF, iv_eqT, iv_eqF, iv_div, iv_mod, ↓bnI_s, ↓bnV_s, ↓bnJ_s, ↓bnR_s, rt_e, rt_0, rt_bz, sv_s, sv_o, ur_s, ur_e, ur_o, bz_T, bz_F, nat_eqF, Nat.reduceAdd], fun k h1 h2 => by rw [hW]; simp (disch := first | decide | omega | (simp (disch := first | decide | omega) only [sv_s, sv_o, ur_s, ur_e, ur_o]; omega)) only [↓reduceIte, iv_add, iv_sub, iv_mul, iv_neg, iv_ltT, iv_ltF, iv_leT, iv_leF, iv_eqT, iv_eqF, iv_div, iv_mod, ↓bnI_s, ↓bnV_s, ↓bnJ_s, ↓bnR_s, rt_e, rt_0, rt_bz, sv_s, sv_o, ur_s, ur_e, ur_o, bz_T, bz_F, nat_eqF, Nat.reduceAdd], fun k hk => by rw [hW]; simp (disch := first | decide | omega | (simp (disch := first | decide | omega) only [sv_s, sv_o, ur_s, ur_e, ur_o]; omega)) only [↓reduceIte, iv_add, iv_sub, iv_mul, iv_neg, iv_ltT, iv_ltF, iv_leT, iv_leF, iv_eqT, iv_eqF, iv_div, iv_mod, ↓bnI_s, ↓bnV_s, ↓bnJ_s, ↓bnR_s, rt_e, rt_0, rt_bz, sv_s, sv_o, ur_s, ur_e, ur_o, bz_T, bz_F, nat_eqF, Nat.reduceAdd]⟩
  have BW : B2 W (sB s) (sN s) := by
    obtain ⟨b1, b2, b3, b4⟩ := B
    refine ⟨by rw [hW]; simp (disch := first | decide | omega | (simp (disch := first | decide | omega) only [sv_s, sv_o, ur_s, ur_e, ur_o]; omega)) only [↓reduceIte, iv_add, iv_sub, iv_mul, iv_neg, iv_ltT, iv_ltF, iv_leT, iv_leF, iv_eqT, iv_eqF, iv_div, iv_mod, ↓bnI_s, ↓bnV_s, ↓bnJ_s, ↓bnR_s, rt_e, rt_0, rt_bz, sv_s, sv_o, ur_s, ur_e, ur_o, bz_T, bz_F, nat_eqF, Nat.reduceAdd, b1], fun j j0 j1 => by rw [hW]; simp (disch := first | decide | omega | (simp (disch := first | decide | omega) only [sv_s, sv_o, ur_s, ur_e, ur_o]; omega)) only [↓reduceIte, iv_add, iv_sub, iv_mul, iv_neg, iv_ltT, iv_ltF, iv_leT, iv_leF, iv_eqT, iv_eqF, iv_div, iv_mod, ↓bnI_s, ↓bnV_s, ↓bnJ_s, ↓bnR_s, rt_e, rt_0, rt_bz, sv_s, sv_o, ur_s, ur_e, ur_o, bz_T, bz_F, nat_eqF, Nat.reduceAdd]; exact b2 j j0 j1, b3, b4⟩
  have S1 := S.1
  have g := S.2.2.2 0 (by omega) S1.1
  have t0 := g.2.1
  rw [e0] at t0
  obtain ⟨U1, K1, n1, n2, n3⟩ := y_nextT (U := W) (K := K) G BW (c := 0) (by rw [hW]; simp (disch := first | decide | omega | (simp (disch := first | decide | omega) only [sv_s, sv_o, ur_s, ur_e, ur_o]; omega)) only [↓reduceIte, iv_add, iv_sub, iv_mul, iv_neg, iv_ltT, iv_ltF, iv_leT, iv_leF, iv_eqT, iv_eqF, iv_div, iv_mod, ↓bnI_s, ↓bnV_s, ↓bnJ_s, ↓bnR_s, rt_e, rt_0, rt_bz, sv_s, sv_o, ur_s, ur_e, ur_o, bz_T, bz_F, nat_eqF, Nat.reduceAdd]) (by omega) t0
  have u8 : U1 438 = W 438 := n2.1 438 (by decide)
  have u5 : ∀ j, j ≠ 7 → j ≠ 8 → j ≠ 9 → j ≠ 10 → U1 435 j = W 435 j := n2.2
  have hu : Uc U1 K1 s 0 0 0 0 := by
    refine ⟨⟨n2.b2 BW, n3⟩, ?_, ?_, ?_, ?_⟩
    · rw [u5 12 (by decide) (by decide) (by decide) (by decide), hW, hX]; simp (disch := first | decide | omega | (simp (disch := first | decide | omega) only [sv_s, sv_o, ur_s, ur_e, ur_o]; omega)) only [↓reduceIte, iv_add, iv_sub, iv_mul, iv_neg, iv_ltT, iv_ltF, iv_leT, iv_leF, iv_eqT, iv_eqF, iv_div, iv_mod, ↓bnI_s, ↓bnV_s, ↓bnJ_s, ↓bnR_s, rt_e, rt_0, rt_bz, sv_s, sv_o, ur_s, ur_e, ur_o, bz_T, bz_F, nat_eqF, Nat.reduceAdd]
    · rw [u8, hW, hX]; simp (disch := first | decide | omega | (simp (disch := first | decide | omega) only [sv_s, sv_o, ur_s, ur_e, ur_o]; omega)) only [↓reduceIte, iv_add, iv_sub, iv_mul, iv_neg, iv_ltT, iv_ltF, iv_leT, iv_leF, iv_eqT, iv_eqF, iv_div, iv_mod, ↓bnI_s, ↓bnV_s, ↓bnJ_s, ↓bnR_s, rt_e, rt_0, rt_bz, sv_s, sv_o, ur_s, ur_e, ur_o, bz_T, bz_F, nat_eqF, Nat.reduceAdd]
    · rw [u5 13 (by decide) (by decide) (by decide) (by decide), hW]; simp (disch := first | decide | omega | (simp (disch := first | decide | omega) only [sv_s, sv_o, ur_s, ur_e, ur_o]; omega)) only [↓reduceIte, iv_add, iv_sub, iv_mul, iv_neg, iv_ltT, iv_ltF, iv_leT, iv_leF, iv_eqT, iv_eqF, iv_div, iv_mod, ↓bnI_s, ↓bnV_s, ↓bnJ_s, ↓bnR_s, rt_e, rt_0, rt_bz, sv_s, sv_o, ur_s, ur_e, ur_o, bz_T, bz_F, nat_eqF, Nat.reduceAdd]
    · rw [u5 19 (by decide) (by decide) (by decide) (by decide), hW]; simp (disch := first | decide | omega | (simp (disch := first | decide | omega) only [sv_s, sv_o, ur_s, ur_e, ur_o]; omega)) only [↓reduceIte, iv_add, iv_sub, iv_mul, iv_neg, iv_ltT, iv_ltF, iv_leT, iv_leF, iv_eqT, iv_eqF, iv_div, iv_mod, ↓bnI_s, ↓bnV_s, ↓bnJ_s, ↓bnR_s, rt_e, rt_0, rt_bz, sv_s, sv_o, ur_s, ur_e, ur_o, bz_T, bz_F, nat_eqF, Nat.reduceAdd]
  have R : Rt V1 U1 s 0 0 0 0 (-1) (-1) 0 := by
    refine ⟨by omega, by omega, by omega, fun k k0 k1 => absurd k1 (by omega), Or.inl ⟨rfl, fun k k0 k1 => absurd k1 (by omega)⟩, Or.inl ⟨rfl, fun k k0 k1 => absurd k1 (by omega)⟩, by omega, by decide, by decide⟩
  have st : cA m_M_readText [.ref 435] (em U K zm) = rX m_M_readText m_M_readText 43 [.ref 435, dd] [] (em U1 K1 zm) := by
    have F := G
    rw [hW] at n1
    simp (disch := first | decide | omega | (simp (disch := first | decide | omega) only [sv_s, sv_o, ur_s, ur_e, ur_o]; omega)) only [↓reduceIte, iv_add, iv_sub, iv_mul, iv_neg, iv_ltT, iv_ltF, iv_leT, iv_leF, iv_eqT, iv_eqF, iv_div, iv_mod, ↓bnI_s, ↓bnV_s, ↓bnJ_s, ↓bnR_s, rt_e, rt_0, rt_bz, sv_s, sv_o, ur_s, ur_e, ur_o, bz_T, bz_F, nat_eqF, Nat.reduceAdd, ↓q_M_readText, ↓gR_435_0 F, ↓gR_435_2 F, ↓gI_435_12 F, ↓pI_435_12 F, ↓pI_435_13 F, ↓pI_435_19 F, ↓pI_435_7 F, ↓lI_436 F, ↓lI_437 F, ↓lI_438 F, ↓lI_439 F, ↓lI_440 F, ↓lI_441 F, ↓lI_443 F, ↓lI_444 F, ↓lI_445 F, ↓lI_446 F, ↓lI_447 F, ↓lI_448 F, ↓lI_449 F, ↓lI_450 F, ↓sI_436 F, ↓sI_437 F, ↓sI_438 F, ↓sI_439 F, ↓sI_440 F, ↓sI_441 F, ↓sI_443 F, ↓sI_444 F, ↓sI_445 F, ↓sI_446 F, ↓sI_447 F, ↓sI_448 F, ↓sI_449 F, ↓sI_450 F, ↓gd_435 F, il_0, il_1, il_2, il_7, il_11, il_12, il_13, il_19, il_27, il_43, il_681, h1, n1]
  have fr : frW s U U1 := fW.tr n2.w_
  rcases O with ⟨n', c', ra', ba', o1, o2⟩ | ⟨j, f, o1, o2, o3⟩
  · obtain ⟨U2, K2, w', on', p1, p2, p3, p4⟩ := o2 U1 K1 0 0 hu R
    exact Or.inl ⟨n', c', ra', ba', o1, U2, K2, w', on', st.trans p1, p2, p3, fr.tr p4⟩
  · obtain ⟨U2, K2, p1, p2, p3⟩ := o3 U1 K1 0 0 hu R
    exact Or.inr ⟨j, f, o1, o2, U2, K2, st.trans p1, p2, fr.tr p3⟩
end
