/-! A TEXT, read and kept -/
theorem Wsd_of {V : Vm} {xs : Nat → Int32} (h : Ext V (xI xs)) : Wsd V := ⟨h 3 (by decide) 1, h 2 (by decide) 1, fun k _ => h 5 (by decide) k, fun k _ => h 4 (by decide) k⟩
section
variable {V V2 J U K : Vm} {z zm : Zz} {s : Sm} {i n c ra ba e : Int}
theorem Fix_mz (F : Fix z) {kd len : Nat} : Fix (mz z kd len) := by
  obtain ⟨f1, f2, f3, f4, f5, f6, f7, f8, f9⟩ := F
  have o : ∀ a, a < 451 → va_up z.2.1 z.2.2.1 (kd, len) a = z.2.1 a := fun a ha => va_up_o _ _ _ _ (by omega)
  have r : ∀ a, a < 451 → va_up z.1 z.2.2.1 (fun _ => 0) a = z.1 a := fun a ha => va_up_o _ _ _ _ (by omega)
  unfold Fix
  refine ⟨fun a h1 h2 => ?_, ?_, ?_, ?_, ?_, ?_, ?_, ?_, ?_⟩
  · show va_up z.2.1 z.2.2.1 (kd, len) a = _ ∧ (_ → _ → ∀ k, _ → va_up z.1 z.2.2.1 (fun _ => 0) a k = _)
    rw [o a h2, r a h2]
    exact f1 a h1 h2
  · show 451 ≤ z.2.2.1 + 1
    omega
  · exact (o 1 (by decide)).trans f3
  · exact (o 2 (by decide)).trans f4
  · exact (o 3 (by decide)).trans f5
  · exact (o 4 (by decide)).trans f6
  · exact (o 5 (by decide)).trans f7
  · show va_up z.1 z.2.2.1 (fun _ => 0) 2 0 = 4
    rw [r 2 (by decide)]; exact f8
  · show va_up z.1 z.2.2.1 (fun _ => 0) 3 0 = 5
    rw [r 3 (by decide)]; exact f9
theorem Fix_ref (F : Fix z) {a : Nat} {r : Nat → Nat} (ha : 451 ≤ a ∨ a = 17) : Fix (va_up z.1 a r, z.2) := by
  obtain ⟨f1, f2, f3, f4, f5, f6, f7, f8, f9⟩ := F
  have o : ∀ b, b < 451 → b ≠ 17 → va_up z.1 a r b = z.1 b := fun b hb h7 => va_up_o _ _ _ _ (by omega)
  unfold Fix
  refine ⟨fun b h1 h2 => ⟨(f1 b h1 h2).1, fun n1 n2 k hk => ?_⟩, f2, f3, f4, f5, f6, f7, ?_, ?_⟩
  · show va_up z.1 a r b k = _
    rw [o b h2 n1]; exact (f1 b h1 h2).2 n1 n2 k hk
  · show va_up z.1 a r 2 0 = 4
    rw [o 2 (by decide) (by decide)]; exact f8
  · show va_up z.1 a r 3 0 = 5
    rw [o 3 (by decide) (by decide)]; exact f9
/-- a new text of what has been read -/
theorem t_mk (F : Fix z) (P : Cc V s i n c ra ba) (hn : 0 ≤ n ∧ n ≤ 24) (hc : 0 ≤ c ∧ c ≤ 300) : ∃ V3 J3 z3, rX m_Reader_readTape m_Reader_readTape 81 [.ref 424, dd] [] (em V J z) = some (.ref z.2.2.1, em V3 J3 z3) ∧ Fix z3 ∧ z3.2.2.1 = z.2.2.1 + 3 ∧ z3.2.2.2 ≤ z.2.2.2 + 1000 ∧ (∀ a, a < z.2.2.1 → z3.2.1 a = z.2.1 a ∧ z3.1 a = z.1 a ∧ V3 a = V a) ∧ z3.2.1 z.2.2.1 = (25, 4) ∧ z3.1 z.2.2.1 0 = z.2.2.1 + 1 ∧ z3.1 z.2.2.1 1 = z.2.2.1 + 2 ∧ z3.2.1 (z.2.2.1 + 1) = (1, (3 * n).toNat) ∧ z3.2.1 (z.2.2.1 + 2) = (1, c.toNat) ∧ V3 z.2.2.1 2 = ra ∧ V3 z.2.2.1 3 = ba ∧ (∀ k, 0 ≤ k → k < 3 * n → V3 (z.2.2.1 + 1) k = V 425 k) ∧ ∀ k, 0 ≤ k → k < c → V3 (z.2.2.1 + 2) k = V 426 k := by
  obtain ⟨p1, p2, p3, p4, p5, p6, p7⟩ := P
  have N451 : 451 ≤ z.2.2.1 := F.2.1
  obtain ⟨N, hN⟩ : ∃ N, N = z.2.2.1 := ⟨_, rfl⟩
  rw [← hN] at N451 ⊢
  -- the object
  obtain ⟨za, hza⟩ : ∃ za, za = mz z 25 4 := ⟨_, rfl⟩
  have Fa : Fix za := by rw [hza]; exact Fix_mz F
  have na : za.2.2.1 = N + 1 := by rw [hza, hN]; rfl
  have sa : ∀ a, a < N → za.2.1 a = z.2.1 a ∧ za.1 a = z.1 a := fun a ha => by
    rw [hza]
    exact ⟨va_up_o _ _ _ _ (by omega), va_up_o _ _ _ _ (by omega)⟩
  have saN : za.2.1 N = (25, 4) := by rw [hza, hN]; exact va_up_s _ _ _
  have oa : ∀ a, a ≠ N → z0 V N a = V a := fun a ha => funext fun k => if_neg ha
  -- the clauses
  have s425 : za.2.1 425 = (1, 72) := s_425 Fa
  obtain ⟨Vb, Jb, b1, b2, b3⟩ := y_copyOf (V := z0 V N) (J := z0 J N) (m := 3 * n) s425 (by omega) (by omega) (by decide)
  rw [na] at b1 b2 b3
  obtain ⟨zb, hzb⟩ : ∃ zb, zb = mz za 1 (3 * n).toNat := ⟨_, rfl⟩
  rw [← hzb] at b1
  have Fb : Fix zb := by rw [hzb]; exact Fix_mz Fa
  have nb : zb.2.2.1 = N + 2 := by rw [hzb]; show za.2.2.1 + 1 = _; rw [na]
  have sb' : ∀ a, a < N + 1 → zb.2.1 a = za.2.1 a ∧ zb.1 a = za.1 a := fun a ha => by
    rw [hzb]
    exact ⟨va_up_o _ _ _ _ (by omega), va_up_o _ _ _ _ (by omega)⟩
  have sbN : zb.2.1 (N + 1) = (1, (3 * n).toNat) := by rw [hzb, ← na]; exact va_up_s _ _ _
  -- the code
  have s426 : zb.2.1 426 = (1, 301) := s_426 Fb
  obtain ⟨Vc, Jc, c1, c2, c3⟩ := y_copyOf (V := Vb) (J := Jb) (m := c) s426 (by omega) (by omega) (by decide)
  rw [nb] at c1 c2 c3
  obtain ⟨zc, hzc⟩ : ∃ zc, zc = mz zb 1 c.toNat := ⟨_, rfl⟩
  rw [← hzc] at c1
  have Fc : Fix zc := by rw [hzc]; exact Fix_mz Fb
  have sc' : ∀ a, a < N + 2 → zc.2.1 a = zb.2.1 a ∧ zc.1 a = zb.1 a := fun a ha => by
    rw [hzc]
    exact ⟨va_up_o _ _ _ _ (by omega), va_up_o _ _ _ _ (by omega)⟩
  have scN : zc.2.1 (N + 2) = (1, c.toNat) := by rw [hzc, ← nb]; exact va_up_s _ _ _
  have scq : zc.2.1 N = (25, 4) := by rw [(sc' N (by omega)).1, (sb' N (by omega)).1, saN]
  -- the object's fields
  obtain ⟨zd, hzd⟩ : ∃ zd : Zz, zd = (va_up (va_up zc.1 N (va_up (zc.1 N) 0 (N + 1))) N (va_up (va_up zc.1 N (va_up (zc.1 N) 0 (N + 1)) N) 1 (N + 2)), zc.2) := ⟨_, rfl⟩
  have Fd : Fix zd := by
    have q1 := Fix_ref Fc (a := N) (r := va_up (zc.1 N) 0 (N + 1)) (Or.inl N451)
    have q2 := Fix_ref q1 (a := N) (r := va_up (va_up zc.1 N (va_up (zc.1 N) 0 (N + 1)) N) 1 (N + 2)) (Or.inl N451)
    rw [hzd]; exact q2
  have d1 : ∀ a, a ≠ N → zd.1 a = zc.1 a := fun a ha => by
    rw [hzd]
    show va_up (va_up zc.1 N _) N _ a = zc.1 a
    rw [va_up_o _ _ _ _ ha, va_up_o _ _ _ _ ha]
  have d2 : zd.2 = zc.2 := by rw [hzd]
  have dN0 : zd.1 N 0 = N + 1 := by
    rw [hzd]
    show va_up (va_up zc.1 N (va_up (zc.1 N) 0 (N + 1))) N (va_up (va_up zc.1 N (va_up (zc.1 N) 0 (N + 1)) N) 1 (N + 2)) N 0 = N + 1
    rw [va_up_s, va_up_o _ _ _ _ (by decide), va_up_s, va_up_s]
  have dN1 : zd.1 N 1 = N + 2 := by
    rw [hzd]
    show va_up (va_up zc.1 N (va_up (zc.1 N) 0 (N + 1))) N (va_up (va_up zc.1 N (va_up (zc.1 N) 0 (N + 1)) N) 1 (N + 2)) N 1 = N + 2
    rw [va_up_s, va_up_s]
  have v24 : Vc 424 = V 424 := by rw [c2 424 (by omega), b2 424 (by omega), oa 424 (by omega)]
  have vb24 : Vb 424 = V 424 := by rw [b2 424 (by omega), oa 424 (by omega)]
  have va24 : z0 V N 424 = V 424 := oa 424 (by omega)
  have nw : cA m_Text_new [.ref N, .ref (N + 1), .ref (N + 2), .int (iv ra), .int (iv ba)] (em Vc Jc zc) = some (.null, em (sv (sv Vc N 2 ra) N 3 ba) Jc zd) := by
    have g1 : grd (Nat.beq (mS (em Vc Jc zc) N).1 25) = fun r => r := by
      funext r
      exact grd_z (by exact scq)
    have g2 : grd (true && Nat.blt 0 N) = fun r => r := by
      funext r
      exact grd_t (by omega)
    rw [q_Text_new, g1]
    show grd (true && Nat.blt 0 N) _ = _
    rw [g2]
    show pfR (em Vc Jc zc) 9 0 N (N + 1) _ = _
    rw [pfR_e (ci := 9) (n := 4) scq (by omega)]
    rw [pfR_e (ci := 9) (n := 4) (z := (va_up zc.1 N (va_up (zc.1 N) 0 (N + 1)), zc.2)) scq (by omega)]
    have e : ((va_up (va_up zc.1 N (va_up (zc.1 N) 0 (N + 1))) N (va_up (va_up zc.1 N (va_up (zc.1 N) 0 (N + 1)) N) 1 (N + 2)), zc.2) : Zz) = zd := hzd.symm
    have sd : zd.2.1 N = (16 + 9, 4) := by rw [d2]; exact scq
    show pfI (em Vc Jc (va_up (va_up zc.1 N (va_up (zc.1 N) 0 (N + 1))) N (va_up (va_up zc.1 N (va_up (zc.1 N) 0 (N + 1)) N) 1 (N + 2)), zc.2)) 9 2 N (iv ra) _ = _
    rw [e, pfI_e sd (by omega), pfI_e sd (by omega)]
    rfl
  refine ⟨sv (sv Vc N 2 ra) N 3 ba, Jc, zd, ?_, Fd, ?_, ?_, fun a ha => ⟨?_, ?_, ?_⟩, ?_, dN0, dN1, ?_, ?_, by simp (disch := first | decide | omega | (simp (disch := first | decide | omega) only [sv_s, sv_o, ur_s, ur_e, ur_o]; omega)) only [↓reduceIte, iv_add, iv_sub, iv_mul, iv_neg, iv_ltT, iv_ltF, iv_leT, iv_leF, iv_eqT, iv_eqF, iv_div, iv_mod, ↓bnI_s, ↓bnV_s, ↓bnJ_s, ↓bnR_s, rt_e, rt_0, rt_bz, sv_s, sv_o, ur_s, ur_e, ur_o, bz_T, bz_F, nat_eqF, Nat.reduceAdd], by simp (disch := first | decide | omega | (simp (disch := first | decide | omega) only [sv_s, sv_o, ur_s, ur_e, ur_o]; omega)) only [↓reduceIte, iv_add, iv_sub, iv_mul, iv_neg, iv_ltT, iv_ltF, iv_leT, iv_leF, iv_eqT, iv_eqF, iv_div, iv_mod, ↓bnI_s, ↓bnV_s, ↓bnJ_s, ↓bnR_s, rt_e, rt_0, rt_bz, sv_s, sv_o, ur_s, ur_e, ur_o, bz_T, bz_F, nat_eqF, Nat.reduceAdd], fun k k0 k1 => ?_, fun k k0 k1 => ?_⟩
  · have w1 : cA m_X_within [.int (iv n), .int 0, .int 24] (em V J z) = some (.int (iv 1), em V J z) := by
      have q := y_within (v := n) (lo := 0) (hi := 24) (h := em V J z) (by omega)
      rw [bz_T (by omega)] at q
      exact q
    have w2 : cA m_X_within [.int (iv c), .int 0, .int (iv 301)] (em V J z) = some (.int (iv 1), em V J z) := by
      have q := y_within (v := c) (lo := 0) (hi := 301) (h := em V J z) (by omega)
      rw [bz_T (by omega)] at q
      exact q
    have n1 : ¬ iv 1 = (0 : Int32) := by decide
    have em1 : mk (em V J z) (16 + 9) 4 = em (z0 V N) (z0 J N) za := by rw [hza, hN]; exact em_mk
    have mNN : mN (em V J z) = N := hN.symm
    have i3 : (3 : Int32) * iv n = iv (3 * n) := iv_mul 3 n
    rw [q_Reader_readTape_81, gI_424_9 F, p3, if_pos (show iv 0 = 0 from rfl), gI_424_3 F, p4, w1, bnI_s, if_neg n1, gI_424_4 F, p5, gR_424_2 F, nI_426 F, w2, bnI_s, if_neg n1, em1, mNN, gR_424_1 Fa, gI_424_3 Fa, va24, p4, i3, b1, bnR_s, gR_424_2 Fb, gI_424_4 Fb, vb24, p5, c1, bnR_s, gI_424_5 Fc, v24, p6, gI_424_6 Fc, v24, p7.1, nw, bnV_s]
  · rw [d2, hzc]; show zb.2.2.1 + 1 = _; rw [nb]
  · rw [d2, hzc]
    show zb.2.2.2 + c.toNat ≤ _
    rw [hzb]
    show za.2.2.2 + (3 * n).toNat + c.toNat ≤ _
    rw [hza]
    show z.2.2.2 + 4 + (3 * n).toNat + c.toNat ≤ _
    omega
  · rw [d2, (sc' a (by omega)).1, (sb' a (by omega)).1, (sa a ha).1]
  · rw [d1 a (by omega), (sc' a (by omega)).2, (sb' a (by omega)).2, (sa a ha).2]
  · simp (disch := first | decide | omega | (simp (disch := first | decide | omega) only [sv_s, sv_o, ur_s, ur_e, ur_o]; omega)) only [↓reduceIte, iv_add, iv_sub, iv_mul, iv_neg, iv_ltT, iv_ltF, iv_leT, iv_leF, iv_eqT, iv_eqF, iv_div, iv_mod, ↓bnI_s, ↓bnV_s, ↓bnJ_s, ↓bnR_s, rt_e, rt_0, rt_bz, sv_s, sv_o, ur_s, ur_e, ur_o, bz_T, bz_F, nat_eqF, Nat.reduceAdd, c2 a, b2 a, oa a]
  · rw [d2]; exact scq
  · rw [d2, (sc' _ (by omega)).1]; exact sbN
  · rw [d2]; exact scN
  · simp (disch := first | decide | omega | (simp (disch := first | decide | omega) only [sv_s, sv_o, ur_s, ur_e, ur_o]; omega)) only [↓reduceIte, iv_add, iv_sub, iv_mul, iv_neg, iv_ltT, iv_ltF, iv_leT, iv_leF, iv_eqT, iv_eqF, iv_div, iv_mod, ↓bnI_s, ↓bnV_s, ↓bnJ_s, ↓bnR_s, rt_e, rt_0, rt_bz, sv_s, sv_o, ur_s, ur_e, ur_o, bz_T, bz_F, nat_eqF, Nat.reduceAdd, c2 (N + 1)]
    rw [b3 k k0 k1, oa 425 (by omega)]
  · simp (disch := first | decide | omega | (simp (disch := first | decide | omega) only [sv_s, sv_o, ur_s, ur_e, ur_o]; omega)) only [↓reduceIte, iv_add, iv_sub, iv_mul, iv_neg, iv_ltT, iv_ltF, iv_leT, iv_leF, iv_eqT, iv_eqF, iv_div, iv_mod, ↓bnI_s, ↓bnV_s, ↓bnJ_s, ↓bnR_s, rt_e, rt_0, rt_bz, sv_s, sv_o, ur_s, ur_e, ur_o, bz_T, bz_F, nat_eqF, Nat.reduceAdd]
    rw [c3 k k0 k1, b2 426 (by omega), oa 426 (by omega)]
end
