/-! TO MEND -/
/-- two change seats -/
def swp (A : Int → Int) (a b : Int) : Int → Int := ur (ur A (17 + a) (A (17 + b))) (17 + b) (A (17 + a))
theorem swp_a {A : Int → Int} {a b k : Int} : swp A a b (17 + k) = if k = b then A (17 + a) else if k = a then A (17 + b) else A (17 + k) := by
  unfold swp
  by_cases h : k = b
  · rw [if_pos h, h, ur_s]
  · rw [if_neg h, ur_o (by omega)]
    by_cases h2 : k = a
    · rw [if_pos h2, h2, ur_s]
    · rw [if_neg h2, ur_o (by omega)]
theorem swp_o {A : Int → Int} {a b j : Int} (h1 : j ≠ 17 + a) (h2 : j ≠ 17 + b) : swp A a b j = A j := by unfold swp; rw [ur_o h2, ur_o h1]
theorem swp_ps {A : Int → Int} (h : PS A) {a b : Int} (ha : 0 ≤ a ∧ a < A 0) (hb : 0 ≤ b ∧ b < A 0) : PS (swp A a b) := by
  have h6 := h.1
  have e0 : swp A a b 0 = A 0 := swp_o (by omega) (by omega)
  have sa := h.2.1 a ha.1 ha.2
  have sb := h.2.1 b hb.1 hb.2
  unfold PS
  rw [e0]
  refine ⟨h6, fun k k0 k1 => ?_, fun s s0 s1 => ?_, fun j k hj hk e => ?_⟩
  · rw [swp_a]
    split
    · exact sa
    · split
      · exact sb
      · exact h.2.1 k k0 k1
  · obtain ⟨k, k0, k1, k2⟩ := h.2.2.1 s s0 s1
    by_cases q1 : k = a
    · refine ⟨b, hb.1, hb.2, ?_⟩
      rw [swp_a, if_pos rfl, ← q1]; exact k2
    · by_cases q2 : k = b
      · refine ⟨a, ha.1, ha.2, ?_⟩
        rw [swp_a]
        by_cases q3 : a = b
        · rw [if_pos q3, q3, ← q2]; exact k2
        · rw [if_neg q3, if_pos rfl, ← q2]; exact k2
      · refine ⟨k, k0, k1, ?_⟩
        rw [swp_a, if_neg q2, if_neg q1]; exact k2
  · have sg : ∀ k, 0 ≤ k → k < A 0 → ∃ m, (0 ≤ m ∧ m < A 0) ∧ swp A a b (17 + k) = A (17 + m) ∧ (k = b → m = a) ∧ (k ≠ b → k = a → m = b) ∧ (k ≠ b → k ≠ a → m = k) := by
      intro k k0 k1
      rw [swp_a]
      by_cases q1 : k = b
      · exact ⟨a, ha, by rw [if_pos q1], fun _ => rfl, fun q => absurd q1 q, fun q => absurd q1 q⟩
      · by_cases q2 : k = a
        · exact ⟨b, hb, by rw [if_neg q1, if_pos q2], fun q => absurd q q1, fun _ _ => rfl, fun _ q => absurd q2 q⟩
        · exact ⟨k, ⟨k0, k1⟩, by rw [if_neg q1, if_neg q2], fun q => absurd q q1, fun _ q => absurd q q2, fun _ _ => rfl⟩
    obtain ⟨m, m0, m1, m2, m3, m4⟩ := sg j hj.1 hj.2
    obtain ⟨l, l0, l1, l2, l3, l4⟩ := sg k hk.1 hk.2
    rw [m1, l1] at e
    have q := h.inj m0 l0 e
    omega
theorem swp_wat {A : Int → Int} (h : PS A) {a b : Int} (ha : 0 ≤ a ∧ a < A 0) (hb : 0 ≤ b ∧ b < A 0) {s : Int} (hs : 0 ≤ s ∧ s < A 0) : wat (swp A a b) s = if s = A (17 + b) then a else if s = A (17 + a) then b else wat A s := by
  have hp := swp_ps h ha hb
  have h6 := h.1
  have e0 : swp A a b 0 = A 0 := swp_o (by omega) (by omega)
  have w := hp.wt_ (s := s) (by rw [e0]; exact hs)
  have wo := h.wt_ hs
  rw [e0] at w
  -- the one who sits there now
  have key : ∀ k, 0 ≤ k → k < A 0 → swp A a b (17 + k) = s → wat (swp A a b) s = k := fun k k0 k1 e => hp.inj (by rw [e0]; exact w.1) (by rw [e0]; exact ⟨k0, k1⟩) (w.2.trans e.symm)
  by_cases q1 : s = A (17 + b)
  · rw [if_pos q1]
    refine key a ha.1 ha.2 ?_
    rw [swp_a]
    by_cases q : a = b
    · rw [if_pos q, q]; exact q1.symm
    · rw [if_neg q, if_pos rfl]; exact q1.symm
  · rw [if_neg q1]
    by_cases q2 : s = A (17 + a)
    · rw [if_pos q2]
      refine key b hb.1 hb.2 ?_
      rw [swp_a, if_pos rfl]; exact q2.symm
    · rw [if_neg q2]
      refine key _ wo.1.1 wo.1.2 ?_
      rw [swp_a, if_neg (fun e => q1 (by rw [← e]; exact wo.2.symm)), if_neg (fun e => q2 (by rw [← e]; exact wo.2.symm))]
      exact wo.2
section
variable {V J : Vm} {z : Zz}
theorem y_exchange (F : Fix z) {a b : Int} (ha : 0 ≤ a ∧ a < 6) (hb : 0 ≤ b ∧ b < 6) : cA m_Rounds_exchange [.ref 427, .int (iv a), .int (iv b)] (em V J z) = some (.null, em (sv (sv V 428 a (V 428 b)) 428 b (V 428 a)) J z) := by
  simp (disch := first | decide | omega | (simp (disch := first | decide | omega) only [sv_s, sv_o, ur_s, ur_e, ur_o]; omega)) only [↓reduceIte, iv_add, iv_sub, iv_mul, iv_neg, iv_ltT, iv_ltF, iv_leT, iv_leF, iv_eqT, iv_eqF, iv_div, iv_mod, ↓bnI_s, ↓bnV_s, ↓bnJ_s, ↓bnR_s, rt_e, rt_0, rt_bz, sv_s, sv_o, ur_s, ur_e, ur_o, bz_T, bz_F, nat_eqF, Nat.reduceAdd, ↓q_Rounds_exchange, ↓gR_427_0 F, ↓gd_427 F, il_0, il_1, il_5, il_21, y_get (s_428 F) (by decide), y_put (s_428 F) (by decide), rd_in, pt_in]
theorem y_swapNow (F : Fix z) {a b : Int} (ha : 0 ≤ a ∧ a < 6) (hb : 0 ≤ b ∧ b < 6) (hne : a ≠ b) : cA m_M_swapNow [.ref 435, .int (iv a), .int (iv b)] (em V J z) = some (.null, em (sv (sv V 436 (17 + a) (V 436 (17 + b))) 436 (17 + b) (V 436 (17 + a))) J z) := by
  simp (disch := first | decide | omega | (simp (disch := first | decide | omega) only [sv_s, sv_o, ur_s, ur_e, ur_o]; omega)) only [↓reduceIte, iv_add, iv_sub, iv_mul, iv_neg, iv_ltT, iv_ltF, iv_leT, iv_leF, iv_eqT, iv_eqF, iv_div, iv_mod, ↓bnI_s, ↓bnV_s, ↓bnJ_s, ↓bnR_s, rt_e, rt_0, rt_bz, sv_s, sv_o, ur_s, ur_e, ur_o, bz_T, bz_F, nat_eqF, Nat.reduceAdd, ↓q_M_swapNow, ↓gR_435_0 F, ↓lI_436 F, ↓lI_437 F, ↓lI_438 F, ↓lI_439 F, ↓lI_440 F, ↓lI_441 F, ↓lI_443 F, ↓lI_444 F, ↓lI_445 F, ↓lI_446 F, ↓lI_447 F, ↓lI_448 F, ↓lI_449 F, ↓lI_450 F, ↓sI_436 F, ↓sI_437 F, ↓sI_438 F, ↓sI_439 F, ↓sI_440 F, ↓sI_441 F, ↓sI_443 F, ↓sI_444 F, ↓sI_445 F, ↓sI_446 F, ↓sI_447 F, ↓sI_448 F, ↓sI_449 F, ↓sI_450 F, ↓gd_435 F, il_0, il_1, il_11, il_17, il_27]
theorem swapped_row {V : Vm} {a b : Int} : sv (sv V 436 (17 + a) (V 436 (17 + b))) 436 (17 + b) (V 436 (17 + a)) 436 = swp (V 436) a b := by rw [sv_s, sv_s]; rfl
/-- what a swap would make of SPITE: the class -/
theorem y_spiteSwapped (F : Fix z) {A : Int → Int} (hn : V 10 5 = A 0) (n : 0 ≤ A 0 ∧ A 0 ≤ 6) (R : Tr V 10 (A 0) A) (hS : SpO (V 18)) (h28 : ∀ s, 0 ≤ s → s < A 0 → V 428 s = wat A s) {a b : Int} (ha : 0 ≤ a ∧ a < A 0) (hb : 0 ≤ b ∧ b < A 0) : ∃ V', (∀ c, c ≠ 428 → V' c = V c) ∧ (∀ s, V' 428 s = V 428 s) ∧ cA m_Rounds_spiteSwapped [.ref 427, .ref 9, .int (iv a), .int (iv b)] (em V J z) = some (.int (iv (spv (V 18) (wat (swp A a b)) (A 0))), em V' J z) := by
  have hP := R.ps n
  obtain ⟨a1, a2, a3, a4, a5⟩ := R.1 a ha.1 ha.2
  obtain ⟨b1, b2, b3, b4, b5⟩ := R.1 b hb.1 hb.2
  have a2 : V 13 a = A (17 + a) := a2
  have b2 : V 13 b = A (17 + b) := b2
  have wa := h28 _ a5.1 a5.2
  have wb := h28 _ b5.1 b5.2
  rw [wat_in hP ha] at wa
  rw [wat_in hP hb] at wb
  have hps := swp_ps hP ha hb
  generalize hsa : A (17 + a) = sa at *
  generalize hsb : A (17 + b) = sb' at *
  have X : ∃ X, X = sv (sv V 428 sa (V 428 sb')) 428 sb' (V 428 sa) := ⟨_, rfl⟩
  obtain ⟨X, hX⟩ := X
  have xo : ∀ c, c ≠ 428 → X c = V c := fun c hc => by rw [hX, sv_o hc, sv_o hc]
  have x8 : ∀ s, X 428 s = if s = sb' then a else if s = sa then b else V 428 s := fun s => by
    rw [hX, sv_s, sv_s]
    by_cases q : s = sb'
    · rw [if_pos q, q, ur_s, wa]
    · rw [if_neg q, ur_o q]
      by_cases q2 : s = sa
      · rw [if_pos q2, q2, ur_s, wb]
      · rw [if_neg q2, ur_o q2]
  have row : ∀ s, 0 ≤ s → s < A 0 → X 428 s = wat (swp A a b) s := fun s s0 s1 => by
    rw [swp_wat hP ha hb ⟨s0, s1⟩, x8, hsa, hsb, h28 s s0 s1]
  have hW : WO (X 428) (A 0) := fun s s0 s1 => by
    rw [row s s0 s1]
    have e0 : swp A a b 0 = A 0 := swp_o (by omega) (by omega)
    have := (hps.wt_ (s := s) (by rw [e0]; exact ⟨s0, s1⟩)).1
    rw [e0] at this
    omega
  have e := y_spiteOf (V := X) (J := J) F (a := 428) (s_428 F) n (by rw [xo 18 (by decide)]; exact hS) hW
  rw [xo 18 (by decide), spv_c row] at e
  have k1 := y_exchange (V := V) (J := J) F (a := sa) (b := sb') (by omega) (by omega)
  rw [← hX] at k1
  have k2 := y_exchange (V := X) (J := J) F (a := sa) (b := sb') (by omega) (by omega)
  refine ⟨sv (sv X 428 sa (X 428 sb')) 428 sb' (X 428 sa), fun c hc => by rw [sv_o hc, sv_o hc, xo c hc], fun s => ?_, ?_⟩
  · rw [sv_s, sv_s]
    by_cases q : s = sb'
    · rw [q, ur_s, x8]
      by_cases q2 : sa = sb'
      · rw [if_pos q2, ← wa, q2]
      · rw [if_neg q2, if_pos rfl, wb]
    · rw [ur_o q]
      by_cases q2 : s = sa
      · rw [q2, ur_s, x8, if_pos rfl, wa]
      · rw [ur_o q2, x8, if_neg q, if_neg q2]
  · simp (disch := first | decide | omega | (simp (disch := first | decide | omega) only [sv_s, sv_o, ur_s, ur_e, ur_o]; omega)) only [↓reduceIte, iv_add, iv_sub, iv_mul, iv_neg, iv_ltT, iv_ltF, iv_leT, iv_leF, iv_eqT, iv_eqF, iv_div, iv_mod, ↓bnI_s, ↓bnV_s, ↓bnJ_s, ↓bnR_s, rt_e, rt_0, rt_bz, sv_s, sv_o, ur_s, ur_e, ur_o, bz_T, bz_F, nat_eqF, Nat.reduceAdd, ↓q_Rounds_spiteSwapped, ↓gR_9_0 F, ↓gR_10_2 F, ↓gR_427_0 F, ↓gI_10_5 F, ↓gR_9_3 F, ↓gd_427 F, il_0, il_1, il_2, il_3, il_5, il_7, il_21, ↓gR_10_2 F, ↓gI_10_5 F, y_get (s_13 F) (by decide), rd_in, a2, b2, k1, xo 10 (by decide), hn, e, k2]
/-- what a swap would make of SPITE: the model -/
theorem y_M_swapped (F : Fix z) {S : Int → Int} (hP : PS (V 436)) (hA : ∀ k, 0 ≤ k → k < 36 → V 436 (35 + k) = S k) (hS : SpO S) {a b : Int} (ha : 0 ≤ a ∧ a < V 436 0) (hb : 0 ≤ b ∧ b < V 436 0) (hne : a ≠ b) : ∃ V1 V2 V3, cA m_M_swapNow [.ref 435, .int (iv a), .int (iv b)] (em V J z) = some (.null, em V1 J z) ∧ cA m_M_spiteOfSeats [.ref 435] (em V1 J z) = some (.int (iv (spv S (wat (swp (V 436) a b)) (V 436 0))), em V2 J z) ∧ cA m_M_swapNow [.ref 435, .int (iv a), .int (iv b)] (em V2 J z) = some (.null, em V3 J z) ∧ (∀ c, c ≠ 445 → V3 c = V c) := by
  have h6 := hP.1
  have k1 := y_swapNow (V := V) (J := J) F (a := a) (b := b) (by omega) (by omega) hne
  have X : ∃ X, X = sv (sv V 436 (17 + a) (V 436 (17 + b))) 436 (17 + b) (V 436 (17 + a)) := ⟨_, rfl⟩
  obtain ⟨X, hX⟩ := X
  have x6 : X 436 = swp (V 436) a b := by rw [hX]; exact swapped_row
  have xo : ∀ c, c ≠ 436 → X c = V c := fun c hc => by rw [hX, sv_o hc, sv_o hc]
  rw [← hX] at k1
  have e0 : swp (V 436) a b 0 = V 436 0 := swp_o (by omega) (by omega)
  obtain ⟨V2, f1, f2⟩ := y_seats (V := X) (J := J) F (S := S) (by rw [x6]; exact swp_ps hP ha hb) (fun k k0 k1 => by rw [x6, swp_o (by omega) (by omega)]; exact hA k k0 k1) hS
  rw [x6, e0] at f2
  have k3 := y_swapNow (V := V2) (J := J) F (a := a) (b := b) (by omega) (by omega) hne
  refine ⟨X, V2, _, k1, f2, k3, fun c hc => ?_⟩
  by_cases q : c = 436
  · subst q
    rw [swapped_row, f1 436 (by decide), x6]
    funext j
    by_cases j1 : j = 17 + b
    · rw [j1, swp_a, if_pos rfl, swp_a, if_neg hne, if_pos rfl]
    · by_cases j2 : j = 17 + a
      · rw [j2, swp_a, if_neg hne, if_pos rfl, swp_a, if_pos rfl]
      · rw [swp_o j2 j1, swp_o j2 j1]
  · rw [sv_o q, sv_o q, f1 c hc, xo c q]
end
