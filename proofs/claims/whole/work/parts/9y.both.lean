/-! A TEXT: class and model, whether it is kept or not -/
section
variable {V J : Vm} {z : Zz} {b : Int → Int} {n0 i0 : Int}
theorem t_m0 {U K V1 : Vm} {zm : Zz} {s : Sm} (G : Fix zm) (S : SO s) (B : B2 U (sB s) (sN s)) (h1 : U 436 1 = i0) (hX : sX s = 681 * i0) (hi : 0 ≤ i0 ∧ i0 ≤ 3) (e0 : sE s 0 = 0) : ∃ U1 K1, cA m_M_readText [.ref 435] (em U K zm) = rX m_M_readText m_M_readText 43 [.ref 435, dd] [] (em U1 K1 zm) ∧ Uc U1 K1 s 0 0 0 0 ∧ Rt V1 U1 s 0 0 0 0 (-1) (-1) 0 ∧ frW s U U1 := by
  obtain ⟨W, hW⟩ : ∃ W, W = sv (sv (sv (sv (sv U 435 12 (681 * i0)) 438 (681 * i0) 0) 435 13 0) 435 19 0) 435 7 0 := ⟨_, rfl⟩
  have fW : frW s U W := by
    refine ⟨fun a h1 h2 h3 => by rw [hW]; simp (disch := first | decide | omega | (simp (disch := first | decide | omega) only [sv_s, sv_o, ur_s, ur_e, ur_o]; omega)) only [↓reduceIte, iv_add, iv_sub, iv_mul, iv_neg, iv_ltT, iv_ltF, iv_leT, iv_leF, iv_eqT, iv_eqF, iv_div, iv_mod, ↓bnI_s, ↓bnV_s, ↓bnJ_s, ↓bnR_s, rt_e, rt_0, rt_bz, sv_s, sv_o, ur_s, ur_e, ur_o, bz_T, bz_F, nat_eqF, Nat.reduceAdd], fun k h1 h2 => by rw [hW]; simp (disch := first | decide | omega | (simp (disch := first | decide | omega) only [sv_s, sv_o, ur_s, ur_e, ur_o]; omega)) only [↓reduceIte, iv_add, iv_sub, iv_mul, iv_neg, iv_ltT, iv_ltF, iv_leT, iv_leF, iv_eqT, iv_eqF, iv_div, iv_mod, ↓bnI_s, ↓bnV_s, ↓bnJ_s, ↓bnR_s, rt_e, rt_0, rt_bz, sv_s, sv_o, ur_s, ur_e, ur_o, bz_T, bz_F, nat_eqF, Nat.reduceAdd], fun k hk => by rw [hW]; simp (disch := first | decide | omega | (simp (disch := first | decide | omega) only [sv_s, sv_o, ur_s, ur_e, ur_o]; omega)) only [↓reduceIte, iv_add, iv_sub, iv_mul, iv_neg, iv_ltT, iv_ltF, iv_leT, iv_leF, iv_eqT, iv_eqF, iv_div, iv_mod, ↓bnI_s, ↓bnV_s, ↓bnJ_s, ↓bnR_s, rt_e, rt_0, rt_bz, sv_s, sv_o, ur_s, ur_e, ur_o, bz_T, bz_F, nat_eqF, Nat.reduceAdd]⟩
  have BW : B2 W (sB s) (sN s) := by
    obtain ⟨b1, b2, b3, b4⟩ := B
    refine ⟨by rw [hW]; simp (disch := first | decide | omega | (simp (disch := first | decide | omega) only [sv_s, sv_o, ur_s, ur_e, ur_o]; omega)) only [↓reduceIte, iv_add, iv_sub, iv_mul, iv_neg, iv_ltT, iv_ltF, iv_leT, iv_leF, iv_eqT, iv_eqF, iv_div, iv_mod, ↓bnI_s, ↓bnV_s, ↓bnJ_s, ↓bnR_s, rt_e, rt_0, rt_bz, sv_s, sv_o, ur_s, ur_e, ur_o, bz_T, bz_F, nat_eqF, Nat.reduceAdd, b1], fun j j0 j1 => by rw [hW]; simp (disch := first | decide | omega | (simp (disch := first | decide | omega) only [sv_s, sv_o, ur_s, ur_e, ur_o]; omega)) only [↓reduceIte, iv_add, iv_sub, iv_mul, iv_neg, iv_ltT, iv_ltF, iv_leT, iv_leF, iv_eqT, iv_eqF, iv_div, iv_mod, ↓bnI_s, ↓bnV_s, ↓bnJ_s, ↓bnR_s, rt_e, rt_0, rt_bz, sv_s, sv_o, ur_s, ur_e, ur_o, bz_T, bz_F, nat_eqF, Nat.reduceAdd]; exact b2 j j0 j1, b3, b4⟩
  have S1 := S.1
  have g := S.2.2.2 0 (by omega) S1.1
  have t0 := g.2.1
  rw [e0] at t0
  obtain ⟨U1, K1, n1, n2, n3⟩ := y_nextT (U := W) (K := K) G BW (c := 0) (by rw [hW]; simp (disch := first | decide | omega | (simp (disch := first | decide | omega) only [sv_s, sv_o, ur_s, ur_e, ur_o]; omega)) only [↓reduceIte, iv_add, iv_sub, iv_mul, iv_neg, iv_ltT, iv_ltF, iv_leT, iv_leF, iv_eqT, iv_eqF, iv_div, iv_mod, ↓bnI_s, ↓bnV_s, ↓bnJ_s, ↓bnR_s, rt_e, rt_0, rt_bz, sv_s, sv_o, ur_s, ur_e, ur_o, bz_T, bz_F, nat_eqF, Nat.reduceAdd]) (by omega) t0
  have u8 : U1 438 = W 438 := n2.1 438 (by decide)
  have u5 : ∀ j, j ≠ 7 → j ≠ 8 → j ≠ 9 → j ≠ 10 → U1 435 j = W 435 j := n2.2
  refine ⟨U1, K1, ?_, ⟨⟨n2.b2 BW, n3⟩, ?_, ?_, ?_, ?_⟩, ⟨by omega, by omega, by omega, fun k k0 k1 => absurd k1 (by omega), Or.inl ⟨rfl, fun k k0 k1 => absurd k1 (by omega)⟩, Or.inl ⟨rfl, fun k k0 k1 => absurd k1 (by omega)⟩, by omega, by decide, by decide⟩, fW.tr n2.w_⟩
  · have F := G
    rw [hW] at n1
    simp (disch := first | decide | omega | (simp (disch := first | decide | omega) only [sv_s, sv_o, ur_s, ur_e, ur_o]; omega)) only [↓reduceIte, iv_add, iv_sub, iv_mul, iv_neg, iv_ltT, iv_ltF, iv_leT, iv_leF, iv_eqT, iv_eqF, iv_div, iv_mod, ↓bnI_s, ↓bnV_s, ↓bnJ_s, ↓bnR_s, rt_e, rt_0, rt_bz, sv_s, sv_o, ur_s, ur_e, ur_o, bz_T, bz_F, nat_eqF, Nat.reduceAdd, ↓q_M_readText, ↓gR_435_0 F, ↓gR_435_2 F, ↓gI_435_12 F, ↓pI_435_12 F, ↓pI_435_13 F, ↓pI_435_19 F, ↓pI_435_7 F, ↓lI_436 F, ↓lI_437 F, ↓lI_438 F, ↓lI_439 F, ↓lI_440 F, ↓lI_441 F, ↓lI_443 F, ↓lI_444 F, ↓lI_445 F, ↓lI_446 F, ↓lI_447 F, ↓lI_448 F, ↓lI_449 F, ↓lI_450 F, ↓sI_436 F, ↓sI_437 F, ↓sI_438 F, ↓sI_439 F, ↓sI_440 F, ↓sI_441 F, ↓sI_443 F, ↓sI_444 F, ↓sI_445 F, ↓sI_446 F, ↓sI_447 F, ↓sI_448 F, ↓sI_449 F, ↓sI_450 F, ↓gd_435 F, il_0, il_1, il_2, il_7, il_11, il_12, il_13, il_19, il_27, il_43, il_681, h1, n1]
  · rw [u5 12 (by decide) (by decide) (by decide) (by decide), hW, hX]; simp (disch := first | decide | omega | (simp (disch := first | decide | omega) only [sv_s, sv_o, ur_s, ur_e, ur_o]; omega)) only [↓reduceIte, iv_add, iv_sub, iv_mul, iv_neg, iv_ltT, iv_ltF, iv_leT, iv_leF, iv_eqT, iv_eqF, iv_div, iv_mod, ↓bnI_s, ↓bnV_s, ↓bnJ_s, ↓bnR_s, rt_e, rt_0, rt_bz, sv_s, sv_o, ur_s, ur_e, ur_o, bz_T, bz_F, nat_eqF, Nat.reduceAdd]
  · rw [u8, hW, hX]; simp (disch := first | decide | omega | (simp (disch := first | decide | omega) only [sv_s, sv_o, ur_s, ur_e, ur_o]; omega)) only [↓reduceIte, iv_add, iv_sub, iv_mul, iv_neg, iv_ltT, iv_ltF, iv_leT, iv_leF, iv_eqT, iv_eqF, iv_div, iv_mod, ↓bnI_s, ↓bnV_s, ↓bnJ_s, ↓bnR_s, rt_e, rt_0, rt_bz, sv_s, sv_o, ur_s, ur_e, ur_o, bz_T, bz_F, nat_eqF, Nat.reduceAdd]
  · rw [u5 13 (by decide) (by decide) (by decide) (by decide), hW]; simp (disch := first | decide | omega | (simp (disch := first | decide | omega) only [sv_s, sv_o, ur_s, ur_e, ur_o]; omega)) only [↓reduceIte, iv_add, iv_sub, iv_mul, iv_neg, iv_ltT, iv_ltF, iv_leT, iv_leF, iv_eqT, iv_eqF, iv_div, iv_mod, ↓bnI_s, ↓bnV_s, ↓bnJ_s, ↓bnR_s, rt_e, rt_0, rt_bz, sv_s, sv_o, ur_s, ur_e, ur_o, bz_T, bz_F, nat_eqF, Nat.reduceAdd]
  · rw [u5 19 (by decide) (by decide) (by decide) (by decide), hW]; simp (disch := first | decide | omega | (simp (disch := first | decide | omega) only [sv_s, sv_o, ur_s, ur_e, ur_o]; omega)) only [↓reduceIte, iv_add, iv_sub, iv_mul, iv_neg, iv_ltT, iv_ltF, iv_leT, iv_leF, iv_eqT, iv_eqF, iv_div, iv_mod, ↓bnI_s, ↓bnV_s, ↓bnJ_s, ↓bnR_s, rt_e, rt_0, rt_bz, sv_s, sv_o, ur_s, ur_e, ur_o, bz_T, bz_F, nat_eqF, Nat.reduceAdd]
/-- where the new text is put -/
def zk (z : Zz) (N : Nat) (i : Int) : Zz := (va_up z.1 17 (va_up (z.1 17) i.toNat N), z.2)
theorem Fix_zk (F : Fix z) {N : Nat} {i : Int} : Fix (zk z N i) := Fix_ref F (Or.inr rfl)
theorem rd81_no {V : Vm} {s : Sm} {f g : Int} (F : Fix z) (D : Cd V s f g) : rX m_Reader_readTape m_Reader_readTape 81 [.ref 424, dd] [] (em V J z) = some (.ref 0, em V J z) := by
  obtain ⟨d1, d2, ⟨d3, d3a, d3b⟩, d4, d5⟩ := D
  (rw [q_Reader_readTape_81]; simp (disch := first | decide | omega | (simp (disch := first | decide | omega) only [sv_s, sv_o, ur_s, ur_e, ur_o]; omega)) only [↓reduceIte, iv_add, iv_sub, iv_mul, iv_neg, iv_ltT, iv_ltF, iv_leT, iv_leF, iv_eqT, iv_eqF, iv_div, iv_mod, ↓bnI_s, ↓bnV_s, ↓bnJ_s, ↓bnR_s, rt_e, rt_0, rt_bz, sv_s, sv_o, ur_s, ur_e, ur_o, bz_T, bz_F, nat_eqF, Nat.reduceAdd, ↓gI_424_9 F, ↓gI_424_3 F, ↓gI_424_4 F, ↓gR_424_2 F, ↓gI_424_5 F, ↓gI_424_6 F, ↓nI_18 F, ↓nI_19 F, ↓nI_20 F, ↓nI_22 F, ↓nI_23 F, ↓nI_25 F, ↓nI_26 F, ↓nI_28 F, ↓nI_29 F, ↓nI_418 F, ↓nI_420 F, ↓nI_421 F, ↓nI_422 F, ↓nI_423 F, ↓nI_425 F, ↓nI_426 F, ↓nI_428 F, ↓nI_429 F, ↓nI_432 F, ↓nI_433 F, ↓nI_434 F, il_0, il_1, il_2, il_3, il_4, il_5, il_6, il_9, il_16, il_24, il_81, d3])
def frRd (V V2 : Vm) : Prop := (∀ a, (a < 419 ∨ a = 420 ∨ 426 < a) → V2 a = V a) ∧ ∀ k, k ≠ 5 → V2 419 k = V 419 k
theorem t_all (F : Fix z) (B : By V b n0) (W : Wsd V) (hi : 0 ≤ i0 ∧ i0 ≤ 3) :
  (∃ V2 V3 J3 z3 s n c ra ba, cA m_Reader_readTape [.ref 424] (em V J z) = some (.ref z.2.2.1, em V3 J3 z3) ∧ (Fix z3 ∧ z3.2.2.1 = z.2.2.1 + 3 ∧ z3.2.2.2 ≤ z.2.2.2 + 1000 ∧ (∀ a, a < z.2.2.1 → z3.2.1 a = z.2.1 a ∧ z3.1 a = z.1 a ∧ V3 a = V2 a) ∧ z3.2.1 z.2.2.1 = (25, 4) ∧ z3.1 z.2.2.1 0 = z.2.2.1 + 1 ∧ z3.1 z.2.2.1 1 = z.2.2.1 + 2 ∧ z3.2.1 (z.2.2.1 + 1) = (1, (3 * n).toNat) ∧ z3.2.1 (z.2.2.1 + 2) = (1, c.toNat) ∧ V3 z.2.2.1 2 = ra ∧ V3 z.2.2.1 3 = ba ∧ (∀ k, 0 ≤ k → k < 3 * n → V3 (z.2.2.1 + 1) k = V2 425 k) ∧ ∀ k, 0 ≤ k → k < c → V3 (z.2.2.1 + 2) k = V2 426 k) ∧ (0 ≤ n ∧ n ≤ 24 ∧ 0 ≤ c ∧ c ≤ 300) ∧ frRd V V2 ∧ Cc V2 s (sM s) n c ra ba ∧ sX s = 681 * i0 ∧ sM s ≤ 300 ∧ ∀ U K, B2 U b n0 → U 436 1 = i0 → ∃ U' K' w' on', cA m_M_readText [.ref 435] (em U K (zk z3 z.2.2.1 i0)) = some (.int (iv 0), em U' K' (zk z3 z.2.2.1 i0)) ∧ U' 438 (sX s) = n ∧ Rt V2 U' s (sM s) n c w' ra ba on' ∧ frW s U U') ∨
  (∃ V2 s j f, cA m_Reader_readTape [.ref 424] (em V J z) = some (.ref 0, em V2 J z) ∧ Cd V2 s f (sP s j) ∧ (0 ≤ sP s j ∧ sP s j ≤ 300) ∧ frRd V V2 ∧ sX s = 681 * i0 ∧ ∀ U K, B2 U b n0 → U 436 1 = i0 → ∃ U' K', cA m_M_readText [.ref 435] (em U K z) = some (.int (iv f), em U' K' z) ∧ U' 435 8 = sP s j ∧ frW s U U') := by
  have N451 : 451 ≤ z.2.2.1 := F.2.1
  obtain ⟨V1, V2, s, a1, a2, a3, S, a5, a6, a7, a8, O⟩ := t_read (J := J) F F B W hi
  rcases O with ⟨n, c, ra, ba, o1, o0, o2⟩ | ⟨j, f, o1, o2, o3⟩
  · obtain ⟨V3, J3, z3, q1, q2, q3, q4, q5, q6⟩ := t_mk (J := J) F o1 ⟨o0.1, o0.2.1⟩ ⟨o0.2.2.1, o0.2.2.2⟩
    obtain ⟨V1', V2', s', b1, b2, b3, S', b5, b6, b7, b8, O'⟩ := t_read (J := J) F (Fix_zk q2 (N := z.2.2.1) (i := i0)) B W hi
    rcases O' with ⟨n', c', ra', ba', p1, p0, p2⟩ | ⟨j, f, p1, p2, p3⟩
    · obtain ⟨V3', J3', z3', r1, r2, r3, r4, r5, r6⟩ := t_mk (J := J) F p1 ⟨p0.1, p0.2.1⟩ ⟨p0.2.2.1, p0.2.2.2⟩
      have e : em V3 J3 z3 = em V3' J3' z3' := by
        have h := (q1.symm.trans (a1.symm.trans (b1.trans r1)))
        exact congrArg Prod.snd (Option.some.inj h)
      have ez : z3 = z3' := congrArg (fun m : Mem => m.2.2) e
      subst ez
      have sm := S'.1
      refine Or.inl ⟨V2', V3', J3', z3, s', n', c', ra', ba', b1.trans r1, ⟨r2, r3, r4, r5, r6⟩, p0, ⟨b2, b3⟩, p1, b8, by omega, fun U K hB h1 => ?_⟩
      rw [← b6, ← b7] at hB
      obtain ⟨U1, K1, m1, m2, m3, m4⟩ := t_m0 (V1 := V1') (K := K) (Fix_zk q2 (N := z.2.2.1) (i := i0)) S' hB h1 b8 hi b5
      obtain ⟨U2, K2, w', on', d1, d2, d3, d4⟩ := p2 U1 K1 0 0 m2 m3
      exact ⟨U2, K2, w', on', m1.trans d1, d2.2.2.1, d3, m4.tr d4⟩
    · exfalso
      have h := (q1.symm.trans (a1.symm.trans (b1.trans (rd81_no F p1))))
      have h2 := congrArg Prod.fst (Option.some.inj h)
      have h3 : z.2.2.1 = 0 := Value.ref.inj h2
      omega
  · have rg := S.rg o2.1 o2.2
    refine Or.inr ⟨V2, s, j, f, a1.trans (rd81_no F o1), o1, rg.1, ⟨a2, a3⟩, a8, fun U K hB h1 => ?_⟩
    rw [← a6, ← a7] at hB
    obtain ⟨U1, K1, m1, m2, m3, m4⟩ := t_m0 (V1 := V1) (K := K) F S hB h1 a8 hi a5
    obtain ⟨U2, K2, d1, d2, d3⟩ := o3 U1 K1 0 0 m2 m3
    exact ⟨U2, K2, m1.trans d1, d2, m4.tr d3⟩
/-- nothing but the texts has changed -/
theorem HR_T {TX : Vm → Zz → Nat → Int → Prop} {V' : Vm} {z' : Zz} {H : Nat} {A A' : Int → Int} (hV : ∀ a, H < a → a < H + 201 → V' a = V a) (h9 : V' H 9 = V H 9) (h10 : V' H 10 = V H 10) (hA : ∀ k, k ≠ 1 → k ≠ 2 → A' k = A k) (new : Txs TX V' z' H A') (h : HR TX V z H A) : HR TX V' z' H A' := by
  obtain ⟨c1, c2, c3, c4, c5, c6, c7, c8, c9⟩ := h
  exact ⟨Kn_c (hV _ (by omega) (by omega)) (hV _ (by omega) (by omega)) (hV _ (by omega) (by omega)) (hV _ (by omega) (by omega)) (hV _ (by omega) (by omega)) (hV _ (by omega) (by omega)) (hA _ (by omega) (by omega)) (fun k h1 h2 => hA k (by omega) (by omega)) (fun k h1 h2 => hA k (by omega) (by omega)) c1,
    Sts_w h9 h10 (fun a h1 h2 => hV a (by omega) (by omega)) (hA _ (by omega) (by omega)) (hA _ (by omega) (by omega)) (fun k h1 h2 => hA k (by omega) (by omega)) (fun k h1 h2 => hA k (by omega) (by omega)) c2,
    Spi_c (hV _ (by omega) (by omega)) (fun k h1 h2 => hA k (by omega) (by omega)) c3, Hed_c (hV _ (by omega) (by omega)) (fun k h1 h2 => hA k (by omega) (by omega)) c4, Gai_c (hV _ (by omega) (by omega)) (fun k h1 h2 => hA k (by omega) (by omega)) c5,
    Gue_c (hV _ (by omega) (by omega)) (hV _ (by omega) (by omega)) (hV _ (by omega) (by omega)) (hA _ (by omega) (by omega)) (fun k h1 h2 => hA k (by omega) (by omega)) c6,
    Say_c (hV _ (by omega) (by omega)) (hV _ (by omega) (by omega)) (hV _ (by omega) (by omega)) (hA _ (by omega) (by omega)) (fun k h1 h2 => hA k (by omega) (by omega)) c7,
    Tld_c (hV _ (by omega) (by omega)) (hV _ (by omega) (by omega)) (hV _ (by omega) (by omega)) (hA _ (by omega) (by omega)) (hA _ (by omega) (by omega)) (fun k h1 h2 => hA k (by omega) (by omega)) c8, new⟩
end
