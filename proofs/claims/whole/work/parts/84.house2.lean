/-! one house becomes another: texts, the rest -/
section
variable {V V' J : Vm} {z z' : Zz} {H H' : Nat}
theorem Fix_t (F : Fix z) (e : z'.2 = z.2) (r : ∀ a, a ≠ 17 → a ≠ 218 → z'.1 a = z.1 a) : Fix z' := by
  obtain ⟨f1, f2, f3, f4, f5, f6, f7, f8, f9⟩ := F
  unfold Fix
  rw [e, r 2 (by decide) (by decide), r 3 (by decide) (by decide)]
  exact ⟨fun a h1 h2 => ⟨(f1 a h1 h2).1, fun n1 n2 k hk => by rw [r a n1 n2]; exact (f1 a h1 h2).2 n1 n2 k hk⟩, f2, f3, f4, f5, f6, f7, f8, f9⟩
theorem y_hb55 (h : HH H) (h' : HH H') (ne : H ≠ H') : ∀ (m : Nat) (z : Zz) (i : Int), Fix z → Fz z → 0 ≤ i → i + m = 4 → ∃ z', rX m_House_become m_House_become 55 [.ref H', .ref H, .int (iv i), dd, dd] [] (em V J z) = rX m_House_become m_House_become 91 [.ref H', .ref H, dd, dd, dd] [] (em V J z') ∧ Fix z' ∧ Fz z' ∧ z'.2 = z.2 ∧ (∀ a, a ≠ H' + 8 → z'.1 a = z.1 a) ∧ ∀ k : Nat, z'.1 (H' + 8) k = if i.toNat ≤ k ∧ k < 4 then z.1 (H + 8) k else z.1 (H' + 8) k := by
  intro m
  induction m with
  | zero =>
    intro z i F Z i0 hi
    exact ⟨z, (by (rw [q_House_become_55]; simp (disch := first | decide | omega | (simp (disch := first | decide | omega) only [sv_s, sv_o, ur_s, ur_e, ur_o]; omega)) only [↓reduceIte, iv_add, iv_sub, iv_mul, iv_neg, iv_ltT, iv_ltF, iv_leT, iv_leF, iv_eqT, iv_eqF, iv_div, iv_mod, ↓bnI_s, ↓bnV_s, ↓bnJ_s, ↓bnR_s, rt_e, rt_0, rt_bz, sv_s, sv_o, ur_s, ur_e, ur_o, bz_T, bz_F, nat_eqF, Nat.reduceAdd, ↓gR_9_2 F, ↓nI_18 F, ↓nI_19 F, ↓nI_20 F, ↓nI_22 F, ↓nI_23 F, ↓nI_25 F, ↓nI_26 F, ↓nI_28 F, ↓nI_29 F, ↓nI_418 F, ↓nI_420 F, ↓nI_421 F, ↓nI_422 F, ↓nI_423 F, ↓nI_425 F, ↓nI_426 F, ↓nI_428 F, ↓nI_429 F, ↓nI_432 F, ↓nI_433 F, ↓nI_434 F, il_0, il_1, il_2, il_55, il_91, ↓hR_2 F h', ↓alN_e (hS8 F h') rfl])), F, Z, rfl, fun _ _ => rfl, fun k => by rw [if_neg (by omega)]⟩
  | succ m ih =>
    intro z i F Z i0 hi
    have ne8 : H + 8 ≠ H' + 8 := by omega
    have r8 : H' + 8 = 17 ∨ H' + 8 = 218 := by rcases h' with rfl | rfl <;> decide
    have zx := Z H i.toNat h (by omega)
    obtain ⟨z1, hz⟩ : ∃ z1 : Zz, z1 = (va_up z.1 (H' + 8) (va_up (z.1 (H' + 8)) i.toNat (z.1 (H + 8) i.toNat)), z.2) := ⟨_, rfl⟩
    have e2 : z1.2 = z.2 := by rw [hz]
    have eo : ∀ a, a ≠ H' + 8 → z1.1 a = z.1 a := fun a ha => by rw [hz]; exact va_up_o _ _ _ _ ha
    have ek : ∀ k, z1.1 (H' + 8) k = if k = i.toNat then z.1 (H + 8) k else z.1 (H' + 8) k := fun k => by
      rw [hz]
      show va_up z.1 (H' + 8) (va_up (z.1 (H' + 8)) i.toNat (z.1 (H + 8) i.toNat)) (H' + 8) k = _
      rw [va_up_s]
      by_cases q : k = i.toNat
      · rw [if_pos q, q, va_up_s]
      · rw [if_neg q, va_up_o _ _ _ _ q]
    have F1 : Fix z1 := Fix_t F e2 (fun a h1 h2 => eo a (by omega))
    have Z1 : Fz z1 := fun G k hG hk => by
      rw [e2]
      by_cases q : G = H'
      · rw [q, ek k]
        by_cases w : k = i.toNat
        · rw [if_pos w]; exact Z H k h hk
        · rw [if_neg w]; exact Z H' k h' hk
      · rw [eo _ (by omega)]; exact Z G k hG hk
    obtain ⟨z2, c1, c2, c3, c4, c5, c6⟩ := ih z1 (i + 1) F1 Z1 (by omega) (by omega)
    have st := stR_e (V := V) (J := J) (z := z) (a := H' + 8) (kk := 6) (n := 4) (x := z.1 (H + 8) i.toNat) (i := i) (f := fun h8 => rX m_House_become m_House_become 55 [.ref H', .ref H, .int (iv i + iv 1), dd, dd] [] h8) (hS8 F h') rfl (by omega) (zx.imp id fun q => ⟨q.1.1, q.2⟩) (by omega) (by decide)
    rw [← hz, iv_add] at st
    refine ⟨z2, ?_, c2, c3, c4.trans e2, fun a ha => (c5 a ha).trans (eo a ha), fun k => ?_⟩
    · rw [← c1, ← st]
      (rw [q_House_become_55]; simp (disch := first | decide | omega | (simp (disch := first | decide | omega) only [sv_s, sv_o, ur_s, ur_e, ur_o]; omega)) only [↓reduceIte, iv_add, iv_sub, iv_mul, iv_neg, iv_ltT, iv_ltF, iv_leT, iv_leF, iv_eqT, iv_eqF, iv_div, iv_mod, ↓bnI_s, ↓bnV_s, ↓bnJ_s, ↓bnR_s, rt_e, rt_0, rt_bz, sv_s, sv_o, ur_s, ur_e, ur_o, bz_T, bz_F, nat_eqF, Nat.reduceAdd, ↓gR_9_2 F, ↓nI_18 F, ↓nI_19 F, ↓nI_20 F, ↓nI_22 F, ↓nI_23 F, ↓nI_25 F, ↓nI_26 F, ↓nI_28 F, ↓nI_29 F, ↓nI_418 F, ↓nI_420 F, ↓nI_421 F, ↓nI_422 F, ↓nI_423 F, ↓nI_425 F, ↓nI_426 F, ↓nI_428 F, ↓nI_429 F, ↓nI_432 F, ↓nI_433 F, ↓nI_434 F, il_0, il_1, il_2, il_55, il_91, ↓hR_2 F h', ↓hR_2 F h, ↓alN_e (hS8 F h') rfl, ↓alN_e (hS8 F h) rfl, ↓ldR_e (hS8 F h) rfl])
    · rw [c6 k, eo (H + 8) ne8, ek k]
      by_cases q : k = i.toNat
      · rw [if_neg (by omega), if_pos q, if_pos (by omega)]
      · by_cases w : (i + 1).toNat ≤ k ∧ k < 4
        · rw [if_pos w, if_pos (by omega)]
        · rw [if_neg w, if_neg q, if_neg (by omega)]
/-- the house at H' shows what that at H showed -/
def CH (V V' : Vm) (H H' : Nat) : Prop := (∀ a, ¬ (H' ≤ a ∧ a < H' + 201) → V' a = V a) ∧ TC V V' (H' + 1) (H + 1) ∧ (∀ j, j < 30 → TC V V' (H' + 21 + 6 * j) (H + 21 + 6 * j)) ∧
  (∀ k, 0 ≤ k → k < 36 → V' (H' + 9) k = V (H + 9) k ∧ V' (H' + 10) k = V (H + 10) k) ∧ (∀ k, 0 ≤ k → k < 8 → V' (H' + 11) k = V (H + 11) k) ∧
  (V' (H' + 12) 2 = V (H + 12) 2 ∧ ∀ k, 0 ≤ k → k < 6 → V' (H' + 13) k = V (H + 13) k ∧ V' (H' + 14) k = V (H + 14) k) ∧
  (V' (H' + 15) 2 = V (H + 15) 2 ∧ ∀ k, 0 ≤ k → k < 8 → V' (H' + 16) k = V (H + 16) k ∧ V' (H' + 17) k = V (H + 17) k) ∧
  (V' (H' + 18) 2 = V (H + 18) 2 ∧ ∀ k, 0 ≤ k → k < 8 → V' (H' + 19) k = V (H + 19) k ∧ V' (H' + 20) k = V (H + 20) k) ∧
  (V' H' 9 = V H 9 ∧ V' H' 10 = V H 10 ∧ V' H' 11 = V H 11 ∧ V' H' 12 = V H 12)
theorem y_hb91 (F : Fix z) (h : HH H) (h' : HH H') (hh : H + 201 ≤ H' ∨ H' + 201 ≤ H) : ∃ V', rX m_House_become m_House_become 91 [.ref H', .ref H, dd, dd, dd] [] (em V J z) = some (.null, em V' J z) ∧ (∀ a, a ≠ H' → ¬ (H' + 9 ≤ a ∧ a < H' + 21) → V' a = V a) ∧
  (∀ k, 0 ≤ k → k < 36 → V' (H' + 9) k = V (H + 9) k ∧ V' (H' + 10) k = V (H + 10) k) ∧ (∀ k, 0 ≤ k → k < 8 → V' (H' + 11) k = V (H + 11) k) ∧
  (V' (H' + 12) 2 = V (H + 12) 2 ∧ ∀ k, 0 ≤ k → k < 6 → V' (H' + 13) k = V (H + 13) k ∧ V' (H' + 14) k = V (H + 14) k) ∧
  (V' (H' + 15) 2 = V (H + 15) 2 ∧ ∀ k, 0 ≤ k → k < 8 → V' (H' + 16) k = V (H + 16) k ∧ V' (H' + 17) k = V (H + 17) k) ∧
  (V' (H' + 18) 2 = V (H + 18) 2 ∧ ∀ k, 0 ≤ k → k < 8 → V' (H' + 19) k = V (H + 19) k ∧ V' (H' + 20) k = V (H + 20) k) ∧
  (V' H' 9 = V H 9 ∧ V' H' 10 = V H 10 ∧ V' H' 11 = V H 11 ∧ V' H' 12 = V H 12) := by
  obtain ⟨V1, a1, a2, a3⟩ := y_copyAll (V := V) (J := J) F (hS9 F h') (hS9 F h) (by omega) (by decide)
  obtain ⟨V2, b1, b2, b3⟩ := y_copyAll (V := V1) (J := J) F (hS10 F h') (hS10 F h) (by omega) (by decide)
  obtain ⟨V3, c1, c2, c3⟩ := y_copyAll (V := V2) (J := J) F (hS11 F h') (hS11 F h) (by omega) (by decide)
  obtain ⟨V4, d1, d2, d3, d4⟩ := y_pairs (V := V3) (J := J) F (hP12 F h') (hP12 F h) (by omega) (by decide)
  obtain ⟨V5, e1, e2, e3, e4⟩ := y_pairs (V := V4) (J := J) F (hP15 F h') (hP15 F h) (by omega) (by decide)
  obtain ⟨V6, f1, f2, f3, f4⟩ := y_pairs (V := V5) (J := J) F (hP18 F h') (hP18 F h) (by omega) (by decide)
  have o6 : ∀ a, ¬ (H' + 9 ≤ a ∧ a < H' + 21) → V6 a = V a := fun a ha => by
    rw [f2 a (by omega) (by omega) (by omega), e2 a (by omega) (by omega) (by omega), d2 a (by omega) (by omega) (by omega), c2 a (by omega), b2 a (by omega), a2 a (by omega)]
  have oH : V6 H = V H := o6 H (by omega)
  refine ⟨sv (sv (sv (sv V6 H' 9 (V H 9)) H' 10 (V H 10)) H' 11 (V H 11)) H' 12 (V H 12), ?_, fun a h1 h2 => by simp (disch := first | decide | omega | (simp (disch := first | decide | omega) only [sv_s, sv_o, ur_s, ur_e, ur_o]; omega)) only [↓reduceIte, iv_add, iv_sub, iv_mul, iv_neg, iv_ltT, iv_ltF, iv_leT, iv_leF, iv_eqT, iv_eqF, iv_div, iv_mod, ↓bnI_s, ↓bnV_s, ↓bnJ_s, ↓bnR_s, rt_e, rt_0, rt_bz, sv_s, sv_o, ur_s, ur_e, ur_o, bz_T, bz_F, nat_eqF, Nat.reduceAdd, o6 a h2], fun k k0 k1 => ⟨?_, ?_⟩, fun k k0 k1 => ?_, ⟨?_, fun k k0 k1 => ⟨?_, ?_⟩⟩, ⟨?_, fun k k0 k1 => ⟨?_, ?_⟩⟩, ⟨?_, fun k k0 k1 => ⟨?_, ?_⟩⟩, ?_⟩
  · (rw [q_House_become_91]; simp (disch := first | decide | omega | (simp (disch := first | decide | omega) only [sv_s, sv_o, ur_s, ur_e, ur_o]; omega)) only [↓reduceIte, iv_add, iv_sub, iv_mul, iv_neg, iv_ltT, iv_ltF, iv_leT, iv_leF, iv_eqT, iv_eqF, iv_div, iv_mod, ↓bnI_s, ↓bnV_s, ↓bnJ_s, ↓bnR_s, rt_e, rt_0, rt_bz, sv_s, sv_o, ur_s, ur_e, ur_o, bz_T, bz_F, nat_eqF, Nat.reduceAdd, ↓gR_9_3 F, ↓gR_9_4 F, ↓gR_9_5 F, ↓gR_9_6 F, ↓gR_9_7 F, ↓gR_9_8 F, ↓gI_9_9 F, ↓gI_9_10 F, ↓gI_9_11 F, ↓gI_9_12 F, ↓pI_9_9 F, ↓pI_9_10 F, ↓pI_9_11 F, ↓pI_9_12 F, il_0, il_1, il_2, il_3, il_4, il_5, il_6, il_7, il_8, il_9, il_10, il_11, il_12, il_91, ↓hR_3 F h, ↓hR_3 F h', ↓hR_4 F h, ↓hR_4 F h', ↓hR_5 F h, ↓hR_5 F h', ↓hR_6 F h, ↓hR_6 F h', ↓hR_7 F h, ↓hR_7 F h', ↓hR_8 F h, ↓hR_8 F h', a1, b1, c1, d1, e1, f1, ↓hI_ F h, ↓hP_ F h', oH])
    rfl
  · simp (disch := first | decide | omega | (simp (disch := first | decide | omega) only [sv_s, sv_o, ur_s, ur_e, ur_o]; omega)) only [↓reduceIte, iv_add, iv_sub, iv_mul, iv_neg, iv_ltT, iv_ltF, iv_leT, iv_leF, iv_eqT, iv_eqF, iv_div, iv_mod, ↓bnI_s, ↓bnV_s, ↓bnJ_s, ↓bnR_s, rt_e, rt_0, rt_bz, sv_s, sv_o, ur_s, ur_e, ur_o, bz_T, bz_F, nat_eqF, Nat.reduceAdd]
    rw [f2 _ (by omega) (by omega) (by omega), e2 _ (by omega) (by omega) (by omega), d2 _ (by omega) (by omega) (by omega), c2 _ (by omega), b2 _ (by omega), a3, if_pos (by omega)]
  · simp (disch := first | decide | omega | (simp (disch := first | decide | omega) only [sv_s, sv_o, ur_s, ur_e, ur_o]; omega)) only [↓reduceIte, iv_add, iv_sub, iv_mul, iv_neg, iv_ltT, iv_ltF, iv_leT, iv_leF, iv_eqT, iv_eqF, iv_div, iv_mod, ↓bnI_s, ↓bnV_s, ↓bnJ_s, ↓bnR_s, rt_e, rt_0, rt_bz, sv_s, sv_o, ur_s, ur_e, ur_o, bz_T, bz_F, nat_eqF, Nat.reduceAdd]
    rw [f2 _ (by omega) (by omega) (by omega), e2 _ (by omega) (by omega) (by omega), d2 _ (by omega) (by omega) (by omega), c2 _ (by omega), b3, if_pos (by omega), a2 _ (by omega)]
  · simp (disch := first | decide | omega | (simp (disch := first | decide | omega) only [sv_s, sv_o, ur_s, ur_e, ur_o]; omega)) only [↓reduceIte, iv_add, iv_sub, iv_mul, iv_neg, iv_ltT, iv_ltF, iv_leT, iv_leF, iv_eqT, iv_eqF, iv_div, iv_mod, ↓bnI_s, ↓bnV_s, ↓bnJ_s, ↓bnR_s, rt_e, rt_0, rt_bz, sv_s, sv_o, ur_s, ur_e, ur_o, bz_T, bz_F, nat_eqF, Nat.reduceAdd]
    rw [f2 _ (by omega) (by omega) (by omega), e2 _ (by omega) (by omega) (by omega), d2 _ (by omega) (by omega) (by omega), c3, if_pos (by omega), b2 _ (by omega), a2 _ (by omega)]
  · simp (disch := first | decide | omega | (simp (disch := first | decide | omega) only [sv_s, sv_o, ur_s, ur_e, ur_o]; omega)) only [↓reduceIte, iv_add, iv_sub, iv_mul, iv_neg, iv_ltT, iv_ltF, iv_leT, iv_leF, iv_eqT, iv_eqF, iv_div, iv_mod, ↓bnI_s, ↓bnV_s, ↓bnJ_s, ↓bnR_s, rt_e, rt_0, rt_bz, sv_s, sv_o, ur_s, ur_e, ur_o, bz_T, bz_F, nat_eqF, Nat.reduceAdd]
    rw [f2 _ (by omega) (by omega) (by omega), e2 _ (by omega) (by omega) (by omega), d3, c2 _ (by omega), b2 _ (by omega), a2 _ (by omega)]
  · simp (disch := first | decide | omega | (simp (disch := first | decide | omega) only [sv_s, sv_o, ur_s, ur_e, ur_o]; omega)) only [↓reduceIte, iv_add, iv_sub, iv_mul, iv_neg, iv_ltT, iv_ltF, iv_leT, iv_leF, iv_eqT, iv_eqF, iv_div, iv_mod, ↓bnI_s, ↓bnV_s, ↓bnJ_s, ↓bnR_s, rt_e, rt_0, rt_bz, sv_s, sv_o, ur_s, ur_e, ur_o, bz_T, bz_F, nat_eqF, Nat.reduceAdd]
    rw [f2 _ (by omega) (by omega) (by omega), e2 _ (by omega) (by omega) (by omega), (d4 k k0 k1).1, c2 _ (by omega), b2 _ (by omega), a2 _ (by omega)]
  · simp (disch := first | decide | omega | (simp (disch := first | decide | omega) only [sv_s, sv_o, ur_s, ur_e, ur_o]; omega)) only [↓reduceIte, iv_add, iv_sub, iv_mul, iv_neg, iv_ltT, iv_ltF, iv_leT, iv_leF, iv_eqT, iv_eqF, iv_div, iv_mod, ↓bnI_s, ↓bnV_s, ↓bnJ_s, ↓bnR_s, rt_e, rt_0, rt_bz, sv_s, sv_o, ur_s, ur_e, ur_o, bz_T, bz_F, nat_eqF, Nat.reduceAdd]
    rw [f2 _ (by omega) (by omega) (by omega), e2 _ (by omega) (by omega) (by omega), (d4 k k0 k1).2, c2 _ (by omega), b2 _ (by omega), a2 _ (by omega)]
  · simp (disch := first | decide | omega | (simp (disch := first | decide | omega) only [sv_s, sv_o, ur_s, ur_e, ur_o]; omega)) only [↓reduceIte, iv_add, iv_sub, iv_mul, iv_neg, iv_ltT, iv_ltF, iv_leT, iv_leF, iv_eqT, iv_eqF, iv_div, iv_mod, ↓bnI_s, ↓bnV_s, ↓bnJ_s, ↓bnR_s, rt_e, rt_0, rt_bz, sv_s, sv_o, ur_s, ur_e, ur_o, bz_T, bz_F, nat_eqF, Nat.reduceAdd]
    rw [f2 _ (by omega) (by omega) (by omega), e3, d2 _ (by omega) (by omega) (by omega), c2 _ (by omega), b2 _ (by omega), a2 _ (by omega)]
  · simp (disch := first | decide | omega | (simp (disch := first | decide | omega) only [sv_s, sv_o, ur_s, ur_e, ur_o]; omega)) only [↓reduceIte, iv_add, iv_sub, iv_mul, iv_neg, iv_ltT, iv_ltF, iv_leT, iv_leF, iv_eqT, iv_eqF, iv_div, iv_mod, ↓bnI_s, ↓bnV_s, ↓bnJ_s, ↓bnR_s, rt_e, rt_0, rt_bz, sv_s, sv_o, ur_s, ur_e, ur_o, bz_T, bz_F, nat_eqF, Nat.reduceAdd]
    rw [f2 _ (by omega) (by omega) (by omega), (e4 k k0 k1).1, d2 _ (by omega) (by omega) (by omega), c2 _ (by omega), b2 _ (by omega), a2 _ (by omega)]
  · simp (disch := first | decide | omega | (simp (disch := first | decide | omega) only [sv_s, sv_o, ur_s, ur_e, ur_o]; omega)) only [↓reduceIte, iv_add, iv_sub, iv_mul, iv_neg, iv_ltT, iv_ltF, iv_leT, iv_leF, iv_eqT, iv_eqF, iv_div, iv_mod, ↓bnI_s, ↓bnV_s, ↓bnJ_s, ↓bnR_s, rt_e, rt_0, rt_bz, sv_s, sv_o, ur_s, ur_e, ur_o, bz_T, bz_F, nat_eqF, Nat.reduceAdd]
    rw [f2 _ (by omega) (by omega) (by omega), (e4 k k0 k1).2, d2 _ (by omega) (by omega) (by omega), c2 _ (by omega), b2 _ (by omega), a2 _ (by omega)]
  · simp (disch := first | decide | omega | (simp (disch := first | decide | omega) only [sv_s, sv_o, ur_s, ur_e, ur_o]; omega)) only [↓reduceIte, iv_add, iv_sub, iv_mul, iv_neg, iv_ltT, iv_ltF, iv_leT, iv_leF, iv_eqT, iv_eqF, iv_div, iv_mod, ↓bnI_s, ↓bnV_s, ↓bnJ_s, ↓bnR_s, rt_e, rt_0, rt_bz, sv_s, sv_o, ur_s, ur_e, ur_o, bz_T, bz_F, nat_eqF, Nat.reduceAdd]
    rw [f3, e2 _ (by omega) (by omega) (by omega), d2 _ (by omega) (by omega) (by omega), c2 _ (by omega), b2 _ (by omega), a2 _ (by omega)]
  · simp (disch := first | decide | omega | (simp (disch := first | decide | omega) only [sv_s, sv_o, ur_s, ur_e, ur_o]; omega)) only [↓reduceIte, iv_add, iv_sub, iv_mul, iv_neg, iv_ltT, iv_ltF, iv_leT, iv_leF, iv_eqT, iv_eqF, iv_div, iv_mod, ↓bnI_s, ↓bnV_s, ↓bnJ_s, ↓bnR_s, rt_e, rt_0, rt_bz, sv_s, sv_o, ur_s, ur_e, ur_o, bz_T, bz_F, nat_eqF, Nat.reduceAdd]
    rw [(f4 k k0 k1).1, e2 _ (by omega) (by omega) (by omega), d2 _ (by omega) (by omega) (by omega), c2 _ (by omega), b2 _ (by omega), a2 _ (by omega)]
  · simp (disch := first | decide | omega | (simp (disch := first | decide | omega) only [sv_s, sv_o, ur_s, ur_e, ur_o]; omega)) only [↓reduceIte, iv_add, iv_sub, iv_mul, iv_neg, iv_ltT, iv_ltF, iv_leT, iv_leF, iv_eqT, iv_eqF, iv_div, iv_mod, ↓bnI_s, ↓bnV_s, ↓bnJ_s, ↓bnR_s, rt_e, rt_0, rt_bz, sv_s, sv_o, ur_s, ur_e, ur_o, bz_T, bz_F, nat_eqF, Nat.reduceAdd]
    rw [(f4 k k0 k1).2, e2 _ (by omega) (by omega) (by omega), d2 _ (by omega) (by omega) (by omega), c2 _ (by omega), b2 _ (by omega), a2 _ (by omega)]
  · simp (disch := first | decide | omega | (simp (disch := first | decide | omega) only [sv_s, sv_o, ur_s, ur_e, ur_o]; omega)) only [↓reduceIte, iv_add, iv_sub, iv_mul, iv_neg, iv_ltT, iv_ltF, iv_leT, iv_leF, iv_eqT, iv_eqF, iv_div, iv_mod, ↓bnI_s, ↓bnV_s, ↓bnJ_s, ↓bnR_s, rt_e, rt_0, rt_bz, sv_s, sv_o, ur_s, ur_e, ur_o, bz_T, bz_F, nat_eqF, Nat.reduceAdd, and_self]
theorem y_hbec (F : Fix z) (Z : Fz z) (h : HH H) (h' : HH H') (ne : H ≠ H') : ∃ V' z', cA m_House_become [.ref H', .ref H] (em V J z) = some (.null, em V' J z') ∧ CH V V' H H' ∧ Fix z' ∧ Fz z' ∧ z'.2 = z.2 ∧ (∀ a, a ≠ H' + 8 → z'.1 a = z.1 a) ∧ ∀ k : Nat, k < 4 → z'.1 (H' + 8) k = z.1 (H + 8) k := by
  have hh : H + 201 ≤ H' ∨ H' + 201 ≤ H := by
    rcases h with rfl | rfl
    · rcases h' with rfl | rfl
      · exact absurd rfl ne
      · omega
    · rcases h' with rfl | rfl
      · omega
      · exact absurd rfl ne
  obtain ⟨V1, a1, a2, a3⟩ := y_become (V := V) (J := J) (hT1 F h') (hT1 F h) (by omega)
  obtain ⟨V2, b1, b2, b3⟩ := y_hb13 (J := J) F h h' ne 30 V1 0 (by omega) (by omega)
  obtain ⟨z', c1, c2, c3, c4, c5, c6⟩ := y_hb55 (V := V2) (J := J) h h' ne 4 z 0 F Z (by omega) (by omega)
  obtain ⟨V3, d1, d2, d3, d4, d5, d6, d7, d8⟩ := y_hb91 (V := V2) (J := J) c2 h h' hh
  have e0 : ((0 : Int)).toNat = 0 := rfl
  rw [e0] at b2 b3 c6
  have o2 : ∀ a, ¬ (H' + 1 ≤ a ∧ a < H' + 7) → ¬ (H' + 21 ≤ a ∧ a < H' + 201) → V2 a = V a := fun a h1 h2 => (b2 a (by omega)).trans (a2 a (by omega))
  have oS : ∀ a, H ≤ a → a < H + 201 → V2 a = V a := fun a h1 h2 => o2 a (by omega) (by omega)
  have oS0 : V2 H = V H := oS H (by omega) (by omega)
  refine ⟨V3, z', ?_, ⟨fun a ha => (d2 a (by omega) (by omega)).trans (o2 a (by omega) (by omega)), ?_, fun j hj => ?_, ?_, ?_, ?_, ?_, ?_, ?_⟩, c2, c3, c4, c5, fun k hk => by rw [c6 k, if_pos ⟨Nat.zero_le _, hk⟩]⟩
  · rw [← d1, ← c1, ← b1]
    simp (disch := first | decide | omega | (simp (disch := first | decide | omega) only [sv_s, sv_o, ur_s, ur_e, ur_o]; omega)) only [↓reduceIte, iv_add, iv_sub, iv_mul, iv_neg, iv_ltT, iv_ltF, iv_leT, iv_leF, iv_eqT, iv_eqF, iv_div, iv_mod, ↓bnI_s, ↓bnV_s, ↓bnJ_s, ↓bnR_s, rt_e, rt_0, rt_bz, sv_s, sv_o, ur_s, ur_e, ur_o, bz_T, bz_F, nat_eqF, Nat.reduceAdd, ↓q_House_become, ↓gR_9_0 F, ↓gd_9 F, il_0, il_1, il_2, il_13, il_18, ↓hgd F h', ↓hR_0 F h, ↓hR_0 F h', a1]
  · exact TC.mv (V := V) (V' := V1) a3 (fun x _ => rfl) (fun x hx => (d2 _ (by omega) (by omega)).trans (b2 _ (by omega)))
  · exact TC.mv (V := V1) (V' := V2) (b3 j (by omega) hj) (fun x hx => (a2 _ (by omega)).symm) (fun x hx => d2 _ (by omega) (by omega))
  · rw [← oS (H + 9) (by omega) (by omega), ← oS (H + 10) (by omega) (by omega)]; exact d3
  · rw [← oS (H + 11) (by omega) (by omega)]; exact d4
  · rw [← oS (H + 12) (by omega) (by omega), ← oS (H + 13) (by omega) (by omega), ← oS (H + 14) (by omega) (by omega)]; exact d5
  · rw [← oS (H + 15) (by omega) (by omega), ← oS (H + 16) (by omega) (by omega), ← oS (H + 17) (by omega) (by omega)]; exact d6
  · rw [← oS (H + 18) (by omega) (by omega), ← oS (H + 19) (by omega) (by omega), ← oS (H + 20) (by omega) (by omega)]; exact d7
  · rw [← oS0]; exact d8
end
