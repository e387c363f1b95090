/-! A TEXT: what both read -/
section
variable {V V1 V2 J U K : Vm} {z zm : Zz} {b : Int → Int} {n i0 : Int} {s : Sm}
/-- the class reads -/
theorem t_read (F : Fix z) (G : Fix zm) (B : By V b n) (W : Wsd V) (hi : 0 ≤ i0 ∧ i0 ≤ 3) : ∃ V1 V2 s, cA m_Reader_readTape [.ref 424] (em V J z) = rX m_Reader_readTape m_Reader_readTape 81 [.ref 424, dd] [] (em V2 J z) ∧ (∀ a, (a < 419 ∨ a = 420 ∨ 426 < a) → V2 a = V a) ∧ (∀ k, k ≠ 5 → V2 419 k = V 419 k) ∧ SO s ∧ sE s 0 = 0 ∧ sB s = b ∧ sN s = n ∧ sX s = 681 * i0 ∧ OutT zm s V1 V2 0 0 0 (-1) (-1) := by
  obtain ⟨W0, hW⟩ : ∃ W0, W0 = sv (sv (sv (sv (sv (sv (sv V 424 3 0) 424 4 0) 424 5 (-1)) 424 6 (-1)) 424 8 0) 424 9 0) 424 10 (-1) := ⟨_, rfl⟩
  have o : ∀ a, a ≠ 424 → W0 a = V a := fun a ha => by rw [hW]; simp (disch := first | decide | omega | (simp (disch := first | decide | omega) only [sv_s, sv_o, ur_s, ur_e, ur_o]; omega)) only [↓reduceIte, iv_add, iv_sub, iv_mul, iv_neg, iv_ltT, iv_ltF, iv_leT, iv_leF, iv_eqT, iv_eqF, iv_div, iv_mod, ↓bnI_s, ↓bnV_s, ↓bnJ_s, ↓bnR_s, rt_e, rt_0, rt_bz, sv_s, sv_o, ur_s, ur_e, ur_o, bz_T, bz_F, nat_eqF, Nat.reduceAdd]
  have B0 : By W0 b n := by
    unfold By at *
    rw [o 419 (by decide), o 420 (by decide)]; exact B
  have W1 : Wsd W0 := by
    unfold Wsd at *
    rw [o 3 (by decide), o 2 (by decide), o 5 (by decide), o 4 (by decide)]; exact W
  obtain ⟨V1, E, e, c1, c2, c3, c4, c5, c6⟩ := y_cut (J := J) F B0 W1
  have bn := B.2.2.1
  obtain ⟨s, hs⟩ : ∃ s : Sm, s = (b, V1 421, V1 422, V1 423, E, n, e, 681 * i0, 0) := ⟨_, rfl⟩
  have S : SO s := by
    rw [hs]
    exact ⟨⟨c5.1, c5.2, bn.2⟩, ⟨by show 0 ≤ 681 * i0; omega, by show 681 * i0 ≤ 2043; omega⟩, Or.inl rfl, fun j j0 j1 => c6 j j0 j1⟩
  have v424 : V1 424 = W0 424 := c2.1 424 (by decide) (by decide) (by decide) (by decide)
  have C : Cc V1 s 0 0 0 (-1) (-1) := by
    unfold Cc Cs
    rw [hs, v424, hW]
    exact ⟨⟨rfl, rfl, rfl, c4⟩, by simp (disch := first | decide | omega | (simp (disch := first | decide | omega) only [sv_s, sv_o, ur_s, ur_e, ur_o]; omega)) only [↓reduceIte, iv_add, iv_sub, iv_mul, iv_neg, iv_ltT, iv_ltF, iv_leT, iv_leF, iv_eqT, iv_eqF, iv_div, iv_mod, ↓bnI_s, ↓bnV_s, ↓bnJ_s, ↓bnR_s, rt_e, rt_0, rt_bz, sv_s, sv_o, ur_s, ur_e, ur_o, bz_T, bz_F, nat_eqF, Nat.reduceAdd], by simp (disch := first | decide | omega | (simp (disch := first | decide | omega) only [sv_s, sv_o, ur_s, ur_e, ur_o]; omega)) only [↓reduceIte, iv_add, iv_sub, iv_mul, iv_neg, iv_ltT, iv_ltF, iv_leT, iv_leF, iv_eqT, iv_eqF, iv_div, iv_mod, ↓bnI_s, ↓bnV_s, ↓bnJ_s, ↓bnR_s, rt_e, rt_0, rt_bz, sv_s, sv_o, ur_s, ur_e, ur_o, bz_T, bz_F, nat_eqF, Nat.reduceAdd], by simp (disch := first | decide | omega | (simp (disch := first | decide | omega) only [sv_s, sv_o, ur_s, ur_e, ur_o]; omega)) only [↓reduceIte, iv_add, iv_sub, iv_mul, iv_neg, iv_ltT, iv_ltF, iv_leT, iv_leF, iv_eqT, iv_eqF, iv_div, iv_mod, ↓bnI_s, ↓bnV_s, ↓bnJ_s, ↓bnR_s, rt_e, rt_0, rt_bz, sv_s, sv_o, ur_s, ur_e, ur_o, bz_T, bz_F, nat_eqF, Nat.reduceAdd], by simp (disch := first | decide | omega | (simp (disch := first | decide | omega) only [sv_s, sv_o, ur_s, ur_e, ur_o]; omega)) only [↓reduceIte, iv_add, iv_sub, iv_mul, iv_neg, iv_ltT, iv_ltF, iv_leT, iv_leF, iv_eqT, iv_eqF, iv_div, iv_mod, ↓bnI_s, ↓bnV_s, ↓bnJ_s, ↓bnR_s, rt_e, rt_0, rt_bz, sv_s, sv_o, ur_s, ur_e, ur_o, bz_T, bz_F, nat_eqF, Nat.reduceAdd], by simp (disch := first | decide | omega | (simp (disch := first | decide | omega) only [sv_s, sv_o, ur_s, ur_e, ur_o]; omega)) only [↓reduceIte, iv_add, iv_sub, iv_mul, iv_neg, iv_ltT, iv_ltF, iv_leT, iv_leF, iv_eqT, iv_eqF, iv_div, iv_mod, ↓bnI_s, ↓bnV_s, ↓bnJ_s, ↓bnR_s, rt_e, rt_0, rt_bz, sv_s, sv_o, ur_s, ur_e, ur_o, bz_T, bz_F, nat_eqF, Nat.reduceAdd], by simp (disch := first | decide | omega | (simp (disch := first | decide | omega) only [sv_s, sv_o, ur_s, ur_e, ur_o]; omega)) only [↓reduceIte, iv_add, iv_sub, iv_mul, iv_neg, iv_ltT, iv_ltF, iv_leT, iv_leF, iv_eqT, iv_eqF, iv_div, iv_mod, ↓bnI_s, ↓bnV_s, ↓bnJ_s, ↓bnR_s, rt_e, rt_0, rt_bz, sv_s, sv_o, ur_s, ur_e, ur_o, bz_T, bz_F, nat_eqF, Nat.reduceAdd], by simp (disch := first | decide | omega | (simp (disch := first | decide | omega) only [sv_s, sv_o, ur_s, ur_e, ur_o]; omega)) only [↓reduceIte, iv_add, iv_sub, iv_mul, iv_neg, iv_ltT, iv_ltF, iv_leT, iv_leF, iv_eqT, iv_eqF, iv_div, iv_mod, ↓bnI_s, ↓bnV_s, ↓bnJ_s, ↓bnR_s, rt_e, rt_0, rt_bz, sv_s, sv_o, ur_s, ur_e, ur_o, bz_T, bz_F, nat_eqF, Nat.reduceAdd]⟩
  have sm0 : 0 ≤ sM s := by rw [hs]; exact c5.1
  obtain ⟨V2, l1, l2, l3⟩ := y_tape_l F G S J (sM s).toNat V1 0 0 0 (-1) (-1) 0 C (by omega) (by omega) (by omega) (by omega) (by omega) (by omega)
  refine ⟨V1, V2, s, ?_, fun a ha => ?_, fun k hk => ?_, S, by rw [hs]; exact c3, by rw [hs]; rfl, by rw [hs]; rfl, by rw [hs]; rfl, l3⟩
  · rw [← l1]
    rw [hW] at c1
    simp (disch := first | decide | omega | (simp (disch := first | decide | omega) only [sv_s, sv_o, ur_s, ur_e, ur_o]; omega)) only [↓reduceIte, iv_add, iv_sub, iv_mul, iv_neg, iv_ltT, iv_ltF, iv_leT, iv_leF, iv_eqT, iv_eqF, iv_div, iv_mod, ↓bnI_s, ↓bnV_s, ↓bnJ_s, ↓bnR_s, rt_e, rt_0, rt_bz, sv_s, sv_o, ur_s, ur_e, ur_o, bz_T, bz_F, nat_eqF, Nat.reduceAdd, ↓q_Reader_readTape, ↓gR_424_0 F, ↓pI_424_3 F, ↓pI_424_4 F, ↓pI_424_5 F, ↓pI_424_6 F, ↓pI_424_8 F, ↓pI_424_9 F, ↓pI_424_10 F, ↓gd_424 F, il_0, il_1, il_3, il_4, il_5, il_6, il_8, il_9, il_10, il_20, il_44, c1]
  · rw [l2 a (by omega) (by omega) (by omega), c2.1 a (by omega) (by omega) (by omega) (by omega), o a (by omega)]
  · rw [l2 419 (by omega) (by omega) (by omega), c2.2 k hk, o 419 (by decide)]
end
