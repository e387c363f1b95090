/-! the steps: saved -/
theorem R16 : ∀ j : Nat, j < 30 → R0 16 j = 30 + 6 * j ∧ isT (30 + 6 * j) = true := by decide +kernel
theorem r_16 {z : Zz} (F : Fix z) {j : Nat} (h : j < 30) : z.1 16 j = 30 + 6 * j := fx_R F (by decide) (by decide) (by decide) (by decide) (by omega) (R16 j h).1
theorem T30 {z : Zz} (F : Fix z) {j : Nat} (h : j < 30) : Tab z (30 + 6 * j) := F.tab (R16 j h).2
theorem ldR_e {V J : Vm} {z : Zz} {a kk n : Nat} {i : Int} {f : Nat → Rs} (h : z.2.1 a = (kk, n)) (hk : isRA kk = true) (hi : 0 ≤ i ∧ i < n) (hn : n < 2147483648) : ldR (em V J z) a (iv i) f = f (z.1 a i.toNat) := by
  have b := ibi (n := n) hi hn
  have q : ldR (em V J z) a (iv i) f = f (mR (em V J z) a (iv i).toNatClampNeg) := if_pos ⟨by rw [show mS (em V J z) a = z.2.1 a from rfl, h]; exact hk, by rw [show mS (em V J z) a = z.2.1 a from rfl, h]; exact b⟩
  rw [q]
  have e : (iv i).toNatClampNeg = i.toNat := by
    have q1 : (iv i).toInt = i := iv_toInt (by omega)
    show (iv i).toInt.toNat = i.toNat
    rw [q1]
  rw [e]
  rfl
section
variable {V V' J : Vm} {z : Zz} {A A' : Int → Int} {n : Int} {H t t' : Nat}
theorem Tr_m (hn : n ≤ 6) (f : V' t' 6 = V t 6 ∧ V' t' 7 = V t 7 ∧ V' t' 8 = V t 8 ∧ V' t' 9 = V t 9) (r : ∀ k, 0 ≤ k → k < 6 → V' (t' + 2) k = V (t + 2) k ∧ V' (t' + 3) k = V (t + 3) k ∧ V' (t' + 4) k = V (t + 4) k) (l : ∀ k, 0 ≤ k → k < 25 → V' (t' + 5) k = V (t + 5) k) (a : ∀ k, 7 ≤ k → k < 23 → A' k = A k) (b : ∀ k, 1425 ≤ k → k < 1450 → A' k = A k) (h : Tr V t n A) : Tr V' t' n A' := by
  obtain ⟨a1, a2, a3, a4, a5, a6, a7⟩ := h
  obtain ⟨f6, f7, f8, f9⟩ := f
  refine ⟨fun k k0 k1 => ?_, fun s s0 s1 => ?_, ?_, ?_, ?_, ?_, fun i i0 i1 => ?_⟩
  · obtain ⟨c1, c2, c3, c4, c5⟩ := a1 k k0 k1
    unfold Tk
    rw [a (11 + k) (by omega) (by omega), a (17 + k) (by omega) (by omega), (r k k0 (by omega)).1, (r k k0 (by omega)).2.1, (r _ c5.1 (by omega)).2.2]
    exact ⟨c1, c2, c3, c4, c5⟩
  · obtain ⟨c1, c2⟩ := a2 s s0 s1
    unfold Ts
    rw [(r s s0 (by omega)).2.2, a _ (by omega) (by omega)]
    exact ⟨c1, c2⟩
  · rw [f6, a 10 (by omega) (by omega)]; exact a3
  · rw [f7, a 7 (by omega) (by omega)]; exact a4
  · rw [f8, a 8 (by omega) (by omega)]; exact a5
  · rw [f9, a 9 (by omega) (by omega)]; exact a6
  · rw [a 9 (by omega) (by omega)] at i1
    rw [l i i0 (by omega), b (1425 + i) (by omega) (by omega)]
    exact a7 i i0 i1
theorem Stq_m {i i' : Int} {H' : Nat} (f : V' (sta V' H' i') 5 = V (sta V H i) 5 ∧ V' (sta V' H' i') 6 = V (sta V H i) 6 ∧ V' (sta V' H' i') 7 = V (sta V H i) 7 ∧ V' (sta V' H' i') 8 = V (sta V H i) 8 ∧ V' (sta V' H' i') 9 = V (sta V H i) 9) (r : ∀ k, 0 ≤ k → k < 6 → V' (sta V' H' i' + 2) k = V (sta V H i + 2) k ∧ V' (sta V' H' i' + 3) k = V (sta V H i + 3) k ∧ V' (sta V' H' i' + 4) k = V (sta V H i + 4) k) (l : ∀ k, 0 ≤ k → k < 25 → V' (sta V' H' i' + 5) k = V (sta V H i + 5) k)
    (a : ∀ k, (k = 0 ∨ (7 ≤ k ∧ k < 23) ∨ (1425 ≤ k ∧ k < 1450)) → snp A' i' k = snp A i k) (b : ∀ k, (k = 0 ∨ (7 ≤ k ∧ k < 23)) → nxt A' i' k = nxt A i k) (c : ∀ k, 29 ≤ k → k < 35 → A' k = A k) (h : Stq V H A i) : Stq V' H' A' i' := by
  obtain ⟨b1, b2, b3, b4⟩ := h
  unfold Stq
  rw [f.1, a 0 (by omega), b 0 (by omega)]
  refine ⟨b1, b2, Tr_m (by omega) f.2 r l (fun k k0 k1 => a k (by omega)) (fun k k0 k1 => a k (by omega)) b3, fun k k0 k1 => ?_⟩
  rw [b _ (by omega), b _ (by omega), c (29 + k) (by omega) (by omega)]
  exact b4 k k0 k1
theorem y_stepAt (F : Fix z) {j : Int} (h : 0 ≤ j ∧ j < 30) : cA m_House_stepAt [.ref 9, .int (iv j)] (em V J z) = some (.ref (30 + 6 * j.toNat), em V J z) := by
  simp (disch := first | decide | omega | (simp (disch := first | decide | omega) only [sv_s, sv_o, ur_s, ur_e, ur_o]; omega)) only [↓reduceIte, iv_add, iv_sub, iv_mul, iv_neg, iv_ltT, iv_ltF, iv_leT, iv_leF, iv_eqT, iv_eqF, iv_div, iv_mod, ↓bnI_s, ↓bnV_s, ↓bnJ_s, ↓bnR_s, rt_e, rt_0, rt_bz, sv_s, sv_o, ur_s, ur_e, ur_o, bz_T, bz_F, nat_eqF, Nat.reduceAdd, ↓q_House_stepAt, ↓gR_9_1 F, ↓nI_18 F, ↓nI_19 F, ↓nI_20 F, ↓nI_22 F, ↓nI_23 F, ↓nI_25 F, ↓nI_26 F, ↓nI_28 F, ↓nI_29 F, ↓nI_418 F, ↓nI_420 F, ↓nI_421 F, ↓nI_422 F, ↓nI_423 F, ↓nI_425 F, ↓nI_426 F, ↓nI_428 F, ↓nI_429 F, ↓nI_432 F, ↓nI_433 F, ↓nI_434 F, ↓gd_9 F, il_0, il_1, il_2, il_18, ↓gR_9_1 F, alN_e (s_16 F) rfl, ldR_e (s_16 F) rfl, r_16 F]
theorem y_saveStep (F : Fix z) (h9 : 0 ≤ V 9 9 ∧ V 9 9 < 30) (h10 : 0 ≤ V 9 10 ∧ V 9 10 ≤ 30) : ∃ W V', cA m_House_saveStep [.ref 9] (em V J z) = some (.null, em V' J z) ∧ Bec V W (30 + 6 * ((V 9 9 + V 9 10) % 30).toNat) 10 ∧ V' = if V 9 10 < 30 then sv W 9 10 (V 9 10 + 1) else sv W 9 9 ((V 9 9 + 1) % 30) := by
  obtain ⟨W, e1, e2⟩ := y_become (V := V) (J := J) (T30 F (j := ((V 9 9 + V 9 10) % 30).toNat) (by omega)) (T10 F) (by omega)
  have w9 : W 9 = V 9 := e2.1 9 (by omega)
  refine ⟨W, _, ?_, e2, rfl⟩
  have mk : rX m_House_saveStep m_House_saveStep 29 [.ref 9, dd] [] (em W J z) = some (.null, em (if V 9 10 < 30 then sv W 9 10 (V 9 10 + 1) else sv W 9 9 ((V 9 9 + 1) % 30)) J z) := by
    by_cases q : V 9 10 < 30
    · rw [if_pos q]
      (rw [q_House_saveStep_29]; simp (disch := first | decide | omega | (simp (disch := first | decide | omega) only [sv_s, sv_o, ur_s, ur_e, ur_o]; omega)) only [↓reduceIte, iv_add, iv_sub, iv_mul, iv_neg, iv_ltT, iv_ltF, iv_leT, iv_leF, iv_eqT, iv_eqF, iv_div, iv_mod, ↓bnI_s, ↓bnV_s, ↓bnJ_s, ↓bnR_s, rt_e, rt_0, rt_bz, sv_s, sv_o, ur_s, ur_e, ur_o, bz_T, bz_F, nat_eqF, Nat.reduceAdd, ↓gI_9_10 F, ↓gI_9_9 F, ↓pI_9_10 F, ↓pI_9_9 F, il_0, il_1, il_2, il_9, il_10, il_29, il_30, ↓gI_9_10 F, ↓pI_9_10 F, w9])
    · rw [if_neg q]
      (rw [q_House_saveStep_29]; simp (disch := first | decide | omega | (simp (disch := first | decide | omega) only [sv_s, sv_o, ur_s, ur_e, ur_o]; omega)) only [↓reduceIte, iv_add, iv_sub, iv_mul, iv_neg, iv_ltT, iv_ltF, iv_leT, iv_leF, iv_eqT, iv_eqF, iv_div, iv_mod, ↓bnI_s, ↓bnV_s, ↓bnJ_s, ↓bnR_s, rt_e, rt_0, rt_bz, sv_s, sv_o, ur_s, ur_e, ur_o, bz_T, bz_F, nat_eqF, Nat.reduceAdd, ↓gI_9_10 F, ↓gI_9_9 F, ↓pI_9_10 F, ↓pI_9_9 F, il_0, il_1, il_2, il_9, il_10, il_29, il_30, ↓gI_9_10 F, ↓gI_9_9 F, ↓pI_9_9 F, w9])
  rw [← mk]
  simp (disch := first | decide | omega | (simp (disch := first | decide | omega) only [sv_s, sv_o, ur_s, ur_e, ur_o]; omega)) only [↓reduceIte, iv_add, iv_sub, iv_mul, iv_neg, iv_ltT, iv_ltF, iv_leT, iv_leF, iv_eqT, iv_eqF, iv_div, iv_mod, ↓bnI_s, ↓bnV_s, ↓bnJ_s, ↓bnR_s, rt_e, rt_0, rt_bz, sv_s, sv_o, ur_s, ur_e, ur_o, bz_T, bz_F, nat_eqF, Nat.reduceAdd, ↓q_House_saveStep, ↓gI_9_9 F, ↓gI_9_10 F, ↓gR_9_0 F, ↓gd_9 F, il_0, il_1, il_2, il_9, il_10, il_18, il_29, il_30, y_stepAt F, ↓gI_9_10 F, ↓gI_9_9 F, ↓gR_9_0 F, e1, Nat.add_eq_zero_iff]
end
