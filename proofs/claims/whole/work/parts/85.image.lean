/-! AN IMAGE, and back to it -/
/-- the relation of a text is kept where no text is touched -/
def TXz (TX : Vm → Zz → Nat → Int → Prop) : Prop := ∀ (V : Vm) (z z' : Zz) (q : Nat) (i : Int), z'.2 = z.2 → (∀ a, a ≠ 17 → a ≠ 218 → z'.1 a = z.1 a) → TX V z q i → TX V z' q i
/-- a pair of calls, by which objects may come -/
def Pz (TX : Vm → Zz → Nat → Int → Prop) (I0 : Nat → Nat → Int32) (V J : Vm) (z : Zz) (X M : Mem → Rs) : Prop := ∃ e V1 J1 z1 V2 J2 z2, X (em V J z) = some (.int (iv e), em V1 J1 z1) ∧ M (em V1 J1 z1) = some (.int (iv e), em V2 J2 z2) ∧ GI TX I0 V2 z2 ∧ Fix z2 ∧ Fz z2 ∧ z2.2.2.1 ≤ z.2.2.1 + 3 ∧ z2.2.2.2 ≤ z.2.2.2 + 1000
theorem Pc.pz {TX : Vm → Zz → Nat → Int → Prop} {I0 : Nat → Nat → Int32} {V J : Vm} {z : Zz} {X M : Mem → Rs} (F : Fix z) (Z : Fz z) (h : Pc TX I0 V J z X M) : Pz TX I0 V J z X M := by
  obtain ⟨e, V1, J1, V2, J2, h1, h2, h3⟩ := h
  exact ⟨e, V1, J1, z, V2, J2, z, h1, h2, h3, F, Z, by omega, by omega⟩
section
variable {V V' J : Vm} {z z' : Zz} {H H' t t' : Nat} {A A' : Int → Int} {TX : Vm → Zz → Nat → Int → Prop} {I0 : Nat → Nat → Int32}
theorem TC.tr_ (h : TC V V' t' t) {n : Int} (hn : n ≤ 6) (r : Tr V t n A) : Tr V' t' n A :=
  Tr_m hn ⟨h.1.2.1, h.1.2.2.1, h.1.2.2.2.1, h.1.2.2.2.2⟩ (fun k k0 k1 => ⟨(h.2.1 k k0 k1).2.1, (h.2.1 k k0 k1).2.2.1, (h.2.1 k k0 k1).2.2.2⟩) h.2.2 (fun _ _ _ => rfl) (fun _ _ _ => rfl) r
theorem TC.kn (h : TC V V' t' t) (k : Kn V t A) : Kn V' t' A := by
  obtain ⟨n1, n2, n3, n4⟩ := k
  refine ⟨h.1.1.trans n1, n2, fun k k0 k1 => ?_, h.tr_ n2.2 n4⟩
  rw [(h.2.1 k k0 (by omega)).1]
  exact n3 k k0 k1
theorem Sts_mv (h : CH V V' H H') (s : Sts V H A) : Sts V' H' A := by
  obtain ⟨c1, c2, c3, c4, c5, c6, c7, c8, h9, h10, h11, h12⟩ := h
  obtain ⟨s1, s2, s3, s4⟩ := s
  refine ⟨h10.trans s1, s2, by rw [h9]; exact s3, fun i i0 i1 => ?_⟩
  obtain ⟨j, hj⟩ : ∃ j, j = ((V H 9 + i) % 30).toNat := ⟨_, rfl⟩
  have e : sta V H i = H + 21 + 6 * j := by unfold sta; rw [← hj]
  have e' : sta V' H' i = H' + 21 + 6 * j := by unfold sta; rw [h9, ← hj]
  have t := c3 j (by omega)
  have q := s4 i i0 i1
  refine Stq_m (V := V) (H := H) (i := i) ?_ ?_ ?_ (fun _ _ => rfl) (fun _ _ => rfl) (fun _ _ _ => rfl) q
  · rw [e, e']; exact t.1
  · rw [e, e']; exact fun k k0 k1 => ⟨(t.2.1 k k0 k1).2.1, (t.2.1 k k0 k1).2.2.1, (t.2.1 k k0 k1).2.2.2⟩
  · rw [e, e']; exact t.2.2
/-- the row elsewhere is of no weight -/
theorem HR_A (a : ∀ k, 0 ≤ k → k < 1450 → A' k = A k) (h : HR TX V z H A) : HR TX V z H A' := by
  obtain ⟨c1, c2, c3, c4, c5, c6, c7, c8, c9⟩ := h
  refine ⟨Kn_c rfl rfl rfl rfl rfl rfl (a _ (by omega) (by omega)) (fun k h1 h2 => a k (by omega) (by omega)) (fun k h1 h2 => a k (by omega) (by omega)) c1, Sts_c rfl (fun _ _ _ => rfl) (a _ (by omega) (by omega)) (a _ (by omega) (by omega)) (fun k h1 h2 => a k (by omega) (by omega)) (fun k h1 h2 => a k (by omega) (by omega)) c2, Spi_c rfl (fun k h1 h2 => a k (by omega) (by omega)) c3, Hed_c rfl (fun k h1 h2 => a k (by omega) (by omega)) c4, Gai_c rfl (fun k h1 h2 => a k (by omega) (by omega)) c5, Gue_c rfl rfl rfl (a _ (by omega) (by omega)) (fun k h1 h2 => a k (by omega) (by omega)) c6, Say_c rfl rfl rfl (a _ (by omega) (by omega)) (fun k h1 h2 => a k (by omega) (by omega)) c7, Tld_c rfl rfl rfl (a _ (by omega) (by omega)) (a _ (by omega) (by omega)) (fun k h1 h2 => a k (by omega) (by omega)) c8, ?_⟩
  obtain ⟨b1, b2, b3, b4, b5⟩ := c9
  unfold Txs
  rw [a 1 (by omega) (by omega), a 2 (by omega) (by omega)]
  exact ⟨b1, b2, b3, b4, b5⟩
/-- the texts' rows are elsewhere -/
theorem HR_z (TZ : TXz TX) (e : z'.2 = z.2) (r : ∀ a, a ≠ 17 → a ≠ 218 → z'.1 a = z.1 a) (r8 : z'.1 (H + 8) = z.1 (H + 8)) (h : HR TX V z H A) : HR TX V z' H A := by
  obtain ⟨c1, c2, c3, c4, c5, c6, c7, c8, b1, b2, b3, b4, b5⟩ := h
  exact ⟨c1, c2, c3, c4, c5, c6, c7, c8, b1, b2, b3, b4, fun i i0 i1 => by rw [r8]; exact TZ V z z' _ i e r (b5 i i0 i1)⟩
theorem HR_mv (TO : TXok TX) (TZ : TXz TX) (hH' : HH H') (h : CH V V' H H') (e : z'.2 = z.2) (r : ∀ a, a ≠ 17 → a ≠ 218 → z'.1 a = z.1 a) (r8 : ∀ k : Nat, k < 4 → z'.1 (H' + 8) k = z.1 (H + 8) k) (x : HR TX V z H A) : HR TX V' z' H' A := by
  have s := h
  obtain ⟨c1, c2, c3, c4, c5, c6, c7, c8, h9, h10, h11, h12⟩ := h
  obtain ⟨x1, x2, x3, x4, x5, x6, x7, x8, b1, b2, b3, b4, b5⟩ := x
  have hb : H' + 201 ≤ 411 := by rcases hH' with rfl | rfl <;> decide
  refine ⟨c2.kn x1, Sts_mv s x2, fun k k0 k1 => ?_, fun k k0 k1 => ?_, fun k k0 k1 => ?_, ?_, ?_, ?_, ?_⟩
  · rw [(c4 k k0 k1).1]; exact x3 k k0 k1
  · rw [(c4 k k0 k1).2]; exact x4 k k0 k1
  · rw [c5 k k0 k1]; exact x5 k k0 k1
  · obtain ⟨y1, y2, y3⟩ := x6
    refine ⟨c6.1.trans y1, y2, fun i i0 i1 => ?_⟩
    rw [(c6.2 i i0 (by omega)).1, (c6.2 i i0 (by omega)).2]
    exact y3 i i0 i1
  · obtain ⟨y1, y2, y3⟩ := x7
    refine ⟨c7.1.trans y1, y2, fun i i0 i1 => ?_⟩
    rw [(c7.2 i i0 (by omega)).1, (c7.2 i i0 (by omega)).2]
    exact y3 i i0 i1
  · obtain ⟨y1, y2, y3⟩ := x8
    refine ⟨c8.1.trans y1, y2, fun i i0 i1 => ?_⟩
    rw [(c8.2 i i0 (by omega)).1, (c8.2 i i0 (by omega)).2]
    exact y3 i i0 i1
  · refine ⟨h11.trans b1, b2, h12.trans b3, b4, fun i i0 i1 => ?_⟩
    rw [r8 i.toNat (by omega)]
    exact TO V V' z' _ i (c1 438 (by omega)) (fun a ha => c1 a (by omega)) (TZ V z z' _ i e r (b5 i i0 i1))
theorem y_copy (F : Fix z) {a b : Nat} (hs : (a = 436 ∧ b = 437) ∨ (a = 437 ∧ b = 436)) : ∃ V', cA m_M_copy [.ref a, .ref b] (em V J z) = some (.null, em V' J z) ∧ (∀ c, c ≠ b → V' c = V c) ∧ ∀ k, V' b k = if 0 ≤ k ∧ k < 1450 then V a k else V b k := by
  have ab : a ≠ b := by omega
  have sa : z.2.1 a = (1, 1450) := by rcases hs with ⟨rfl, rfl⟩ | ⟨rfl, rfl⟩; exact s_436 F; exact s_437 F
  have s2 : z.2.1 b = (1, 1450) := by rcases hs with ⟨rfl, rfl⟩ | ⟨rfl, rfl⟩; exact s_437 F; exact s_436 F
  have lp : ∀ (m : Nat) (V : Vm) (i : Int), 0 ≤ i → i + m = 1450 → ∃ V', rX m_M_copy m_M_copy 2 [.ref a, .ref b, .int (iv i)] [] (em V J z) = some (.null, em V' J z) ∧ (∀ c, c ≠ b → V' c = V c) ∧ ∀ k, V' b k = if i ≤ k ∧ k < 1450 then V a k else V b k := by
    intro m
    induction m with
    | zero =>
      intro V i i0 hi
      exact ⟨V, (by (rw [q_M_copy_2]; simp (disch := first | decide | omega | (simp (disch := first | decide | omega) only [sv_s, sv_o, ur_s, ur_e, ur_o]; omega)) only [↓reduceIte, iv_add, iv_sub, iv_mul, iv_neg, iv_ltT, iv_ltF, iv_leT, iv_leF, iv_eqT, iv_eqF, iv_div, iv_mod, ↓bnI_s, ↓bnV_s, ↓bnJ_s, ↓bnR_s, rt_e, rt_0, rt_bz, sv_s, sv_o, ur_s, ur_e, ur_o, bz_T, bz_F, nat_eqF, Nat.reduceAdd, ↓lI_436 F, ↓lI_437 F, ↓lI_438 F, ↓lI_439 F, ↓lI_440 F, ↓lI_441 F, ↓lI_443 F, ↓lI_444 F, ↓lI_445 F, ↓lI_446 F, ↓lI_447 F, ↓lI_448 F, ↓lI_449 F, ↓lI_450 F, ↓sI_436 F, ↓sI_437 F, ↓sI_438 F, ↓sI_439 F, ↓sI_440 F, ↓sI_441 F, ↓sI_443 F, ↓sI_444 F, ↓sI_445 F, ↓sI_446 F, ↓sI_447 F, ↓sI_448 F, ↓sI_449 F, ↓sI_450 F, il_0, il_1, il_2, il_1450])), fun _ _ => rfl, fun k => by rw [if_neg (by omega)]⟩
    | succ m ih =>
      intro V i i0 hi
      obtain ⟨V', e1, e2, e3⟩ := ih (sv V b i (V a i)) (i + 1) (by omega) (by omega)
      refine ⟨V', ?_, fun c hc => by rw [e2 c hc]; simp (disch := first | decide | omega | (simp (disch := first | decide | omega) only [sv_s, sv_o, ur_s, ur_e, ur_o]; omega)) only [↓reduceIte, iv_add, iv_sub, iv_mul, iv_neg, iv_ltT, iv_ltF, iv_leT, iv_leF, iv_eqT, iv_eqF, iv_div, iv_mod, ↓bnI_s, ↓bnV_s, ↓bnJ_s, ↓bnR_s, rt_e, rt_0, rt_bz, sv_s, sv_o, ur_s, ur_e, ur_o, bz_T, bz_F, nat_eqF, Nat.reduceAdd], fun k => ?_⟩
      · rw [← e1]
        (rw [q_M_copy_2]; simp (disch := first | decide | omega | (simp (disch := first | decide | omega) only [sv_s, sv_o, ur_s, ur_e, ur_o]; omega)) only [↓reduceIte, iv_add, iv_sub, iv_mul, iv_neg, iv_ltT, iv_ltF, iv_leT, iv_leF, iv_eqT, iv_eqF, iv_div, iv_mod, ↓bnI_s, ↓bnV_s, ↓bnJ_s, ↓bnR_s, rt_e, rt_0, rt_bz, sv_s, sv_o, ur_s, ur_e, ur_o, bz_T, bz_F, nat_eqF, Nat.reduceAdd, ↓lI_436 F, ↓lI_437 F, ↓lI_438 F, ↓lI_439 F, ↓lI_440 F, ↓lI_441 F, ↓lI_443 F, ↓lI_444 F, ↓lI_445 F, ↓lI_446 F, ↓lI_447 F, ↓lI_448 F, ↓lI_449 F, ↓lI_450 F, ↓sI_436 F, ↓sI_437 F, ↓sI_438 F, ↓sI_439 F, ↓sI_440 F, ↓sI_441 F, ↓sI_443 F, ↓sI_444 F, ↓sI_445 F, ↓sI_446 F, ↓sI_447 F, ↓sI_448 F, ↓sI_449 F, ↓sI_450 F, il_0, il_1, il_2, il_1450, ↓ldI_e sa, ↓stI_e s2])
      · rw [e3 k]
        by_cases q : k = i
        · subst q
          rw [if_neg (by omega), if_pos (by omega)]; simp (disch := first | decide | omega | (simp (disch := first | decide | omega) only [sv_s, sv_o, ur_s, ur_e, ur_o]; omega)) only [↓reduceIte, iv_add, iv_sub, iv_mul, iv_neg, iv_ltT, iv_ltF, iv_leT, iv_leF, iv_eqT, iv_eqF, iv_div, iv_mod, ↓bnI_s, ↓bnV_s, ↓bnJ_s, ↓bnR_s, rt_e, rt_0, rt_bz, sv_s, sv_o, ur_s, ur_e, ur_o, bz_T, bz_F, nat_eqF, Nat.reduceAdd]
        · by_cases w : i + 1 ≤ k ∧ k < 1450
          · rw [if_pos w, if_pos (by omega)]; simp (disch := first | decide | omega | (simp (disch := first | decide | omega) only [sv_s, sv_o, ur_s, ur_e, ur_o]; omega)) only [↓reduceIte, iv_add, iv_sub, iv_mul, iv_neg, iv_ltT, iv_ltF, iv_leT, iv_leF, iv_eqT, iv_eqF, iv_div, iv_mod, ↓bnI_s, ↓bnV_s, ↓bnJ_s, ↓bnR_s, rt_e, rt_0, rt_bz, sv_s, sv_o, ur_s, ur_e, ur_o, bz_T, bz_F, nat_eqF, Nat.reduceAdd]
          · rw [if_neg w, if_neg (by omega)]; simp (disch := first | decide | omega | (simp (disch := first | decide | omega) only [sv_s, sv_o, ur_s, ur_e, ur_o]; omega)) only [↓reduceIte, iv_add, iv_sub, iv_mul, iv_neg, iv_ltT, iv_ltF, iv_leT, iv_leF, iv_eqT, iv_eqF, iv_div, iv_mod, ↓bnI_s, ↓bnV_s, ↓bnJ_s, ↓bnR_s, rt_e, rt_0, rt_bz, sv_s, sv_o, ur_s, ur_e, ur_o, bz_T, bz_F, nat_eqF, Nat.reduceAdd]
  obtain ⟨V', e1, e2, e3⟩ := lp 1450 V 0 (by omega) (by omega)
  exact ⟨V', (by rw [q_M_copy, il_0]; exact e1), e2, e3⟩
theorem p_image (F : Fix z) (Z : Fz z) (TO : TXok TX) (TZ : TXz TX) (g : GI TX I0 V z) : Pz TX I0 V J z (fun h => cA m_X_image [.ref 8] h) (fun h => cA m_M_image [.ref 435] h) := by
  have h9 : HH 9 := Or.inl rfl
  have h2 : HH 210 := Or.inr rfl
  obtain ⟨V1, z1, a1, a2, F1, Z1, a3, a4, a5⟩ := y_hbec (V := V) (J := J) F Z h9 h2 (by decide)
  obtain ⟨V2, b1, b2, b3⟩ := y_copy (V := V1) (J := J) F1 (a := 436) (b := 437) (Or.inl ⟨rfl, rfl⟩)
  have o1 : ∀ a, ¬ (210 ≤ a ∧ a < 411) → V1 a = V a := fun a ha => a2.1 a (by omega)
  have o2 : ∀ a, ¬ (210 ≤ a ∧ a < 411) → a ≠ 437 → V2 a = V a := fun a h1 h2 => (b2 a h2).trans (o1 a h1)
  have e7 : V 10 7 = V 436 7 := g.1.1.2.2.2.2.2.2.1.1
  have v7 : V1 10 7 = V 436 7 := by rw [o1 10 (by decide)]; exact e7
  have w7 : V2 436 7 = V 436 7 := by rw [o2 436 (by decide) (by decide)]
  have zr : ∀ a, a ≠ 17 → a ≠ 218 → z1.1 a = z.1 a := fun a _ h => a4 a h
  obtain ⟨g1, g2, g3, g4, g5, g6, g7, g8⟩ := g
  refine ⟨V 436 7, V1, J, z1, V2, J, z1, ?_, ?_, ⟨?_, ?_, ?_, ?_, ?_, ?_, ?_, ?_⟩, F1, Z1, by rw [a3]; omega, by rw [a3]; omega⟩
  · simp (disch := first | decide | omega | (simp (disch := first | decide | omega) only [sv_s, sv_o, ur_s, ur_e, ur_o]; omega)) only [↓reduceIte, iv_add, iv_sub, iv_mul, iv_neg, iv_ltT, iv_ltF, iv_leT, iv_leF, iv_eqT, iv_eqF, iv_div, iv_mod, ↓bnI_s, ↓bnV_s, ↓bnJ_s, ↓bnR_s, rt_e, rt_0, rt_bz, sv_s, sv_o, ur_s, ur_e, ur_o, bz_T, bz_F, nat_eqF, Nat.reduceAdd, ↓q_X_image, ↓gR_8_1 F, ↓gR_8_0 F, ↓gR_9_0 F, ↓gI_10_7 F, ↓gd_8 F, il_0, il_1, il_2, il_7, il_10, il_26, a1, ↓gR_8_0 F1, ↓gR_9_0 F1, ↓gI_10_7 F1, v7]
  · have F := F1
    simp (disch := first | decide | omega | (simp (disch := first | decide | omega) only [sv_s, sv_o, ur_s, ur_e, ur_o]; omega)) only [↓reduceIte, iv_add, iv_sub, iv_mul, iv_neg, iv_ltT, iv_ltF, iv_leT, iv_leF, iv_eqT, iv_eqF, iv_div, iv_mod, ↓bnI_s, ↓bnV_s, ↓bnJ_s, ↓bnR_s, rt_e, rt_0, rt_bz, sv_s, sv_o, ur_s, ur_e, ur_o, bz_T, bz_F, nat_eqF, Nat.reduceAdd, ↓q_M_image, ↓gR_435_0 F, ↓gR_435_1 F, ↓lI_436 F, ↓lI_437 F, ↓lI_438 F, ↓lI_439 F, ↓lI_440 F, ↓lI_441 F, ↓lI_443 F, ↓lI_444 F, ↓lI_445 F, ↓lI_446 F, ↓lI_447 F, ↓lI_448 F, ↓lI_449 F, ↓lI_450 F, ↓gd_435 F, il_0, il_1, il_7, il_11, il_27, b1, w7]
  · rw [o2 436 (by decide) (by decide)]
    exact HR_z TZ a3 zr (a4 17 (by decide)) (HR_c TO (fun a ha => o2 a (by omega) (by omega)) g1)
  · have m := HR_mv TO TZ h2 a2 a3 zr (fun k hk => a5 k hk) g1
    have m2 : HR TX V2 z1 210 (V 436) := HR_c TO (fun a ha => b2 a (by omega)) m
    exact HR_A (fun k k0 k1 => by rw [b3 k, if_pos ⟨k0, k1⟩, o1 436 (by decide)]) m2
  · rw [b3 1, if_pos (by omega), o1 436 (by decide), o2 436 (by decide) (by decide)]; exact Int.le_refl _
  · unfold Tap at *
    rw [o2 419 (by decide) (by decide), o2 435 (by decide) (by decide), o2 420 (by decide) (by decide), o2 439 (by decide) (by decide)]; exact g4
  · unfold Fau at *
    rw [o2 424 (by decide) (by decide), o2 435 (by decide) (by decide)]; exact g5
  · intro r hr
    rw [o2 432 (by decide) (by decide)]; exact g6 r hr
  · rw [o2 435 (by decide) (by decide)]; exact g7
  · intro a ha k
    rw [o2 a (by omega) (by omega)]; exact g8 a ha k
theorem p_back (F : Fix z) (Z : Fz z) (TO : TXok TX) (TZ : TXz TX) (g : GI TX I0 V z) : Pz TX I0 V J z (fun h => cA m_X_back [.ref 8] h) (fun h => cA m_M_back [.ref 435] h) := by
  have h9 : HH 9 := Or.inl rfl
  have h2 : HH 210 := Or.inr rfl
  obtain ⟨V1, z1, a1, a2, F1, Z1, a3, a4, a5⟩ := y_hbec (V := V) (J := J) F Z h2 h9 (by decide)
  obtain ⟨V2, b1, b2, b3⟩ := y_copy (V := V1) (J := J) F1 (a := 437) (b := 436) (Or.inr ⟨rfl, rfl⟩)
  have o1 : ∀ a, ¬ (9 ≤ a ∧ a < 210) → V1 a = V a := fun a ha => a2.1 a (by omega)
  have o2 : ∀ a, ¬ (9 ≤ a ∧ a < 210) → a ≠ 436 → V2 a = V a := fun a h1 h2 => (b2 a h2).trans (o1 a h1)
  have e7 : V 211 7 = V 437 7 := g.2.1.1.2.2.2.2.2.2.1.1
  have v7 : V1 10 7 = V 437 7 := a2.2.1.1.2.2.1.trans e7
  have w7 : V2 436 7 = V 437 7 := by rw [b3 7, if_pos (by omega), o1 437 (by decide)]
  have zr : ∀ a, a ≠ 17 → a ≠ 218 → z1.1 a = z.1 a := fun a h _ => a4 a h
  obtain ⟨g1, g2, g3, g4, g5, g6, g7, g8⟩ := g
  refine ⟨V 437 7, V1, J, z1, V2, J, z1, ?_, ?_, ⟨?_, ?_, ?_, ?_, ?_, ?_, ?_, ?_⟩, F1, Z1, by rw [a3]; omega, by rw [a3]; omega⟩
  · simp (disch := first | decide | omega | (simp (disch := first | decide | omega) only [sv_s, sv_o, ur_s, ur_e, ur_o]; omega)) only [↓reduceIte, iv_add, iv_sub, iv_mul, iv_neg, iv_ltT, iv_ltF, iv_leT, iv_leF, iv_eqT, iv_eqF, iv_div, iv_mod, ↓bnI_s, ↓bnV_s, ↓bnJ_s, ↓bnR_s, rt_e, rt_0, rt_bz, sv_s, sv_o, ur_s, ur_e, ur_o, bz_T, bz_F, nat_eqF, Nat.reduceAdd, ↓q_X_back, ↓gR_8_0 F, ↓gR_8_1 F, ↓gR_9_0 F, ↓gI_10_7 F, ↓gd_8 F, il_0, il_1, il_2, il_7, il_10, il_26, a1, ↓gR_8_0 F1, ↓gR_9_0 F1, ↓gI_10_7 F1, v7]
  · have F := F1
    simp (disch := first | decide | omega | (simp (disch := first | decide | omega) only [sv_s, sv_o, ur_s, ur_e, ur_o]; omega)) only [↓reduceIte, iv_add, iv_sub, iv_mul, iv_neg, iv_ltT, iv_ltF, iv_leT, iv_leF, iv_eqT, iv_eqF, iv_div, iv_mod, ↓bnI_s, ↓bnV_s, ↓bnJ_s, ↓bnR_s, rt_e, rt_0, rt_bz, sv_s, sv_o, ur_s, ur_e, ur_o, bz_T, bz_F, nat_eqF, Nat.reduceAdd, ↓q_M_back, ↓gR_435_1 F, ↓gR_435_0 F, ↓lI_436 F, ↓lI_437 F, ↓lI_438 F, ↓lI_439 F, ↓lI_440 F, ↓lI_441 F, ↓lI_443 F, ↓lI_444 F, ↓lI_445 F, ↓lI_446 F, ↓lI_447 F, ↓lI_448 F, ↓lI_449 F, ↓lI_450 F, ↓gd_435 F, il_0, il_1, il_7, il_11, il_27, b1, w7]
  · have m := HR_mv TO TZ h9 a2 a3 zr (fun k hk => a5 k hk) g2
    have m2 : HR TX V2 z1 9 (V 437) := HR_c TO (fun a ha => b2 a (by omega)) m
    exact HR_A (fun k k0 k1 => by rw [b3 k, if_pos ⟨k0, k1⟩, o1 437 (by decide)]) m2
  · rw [o2 437 (by decide) (by decide)]
    exact HR_z TZ a3 zr (a4 218 (by decide)) (HR_c TO (fun a ha => o2 a (by omega) (by omega)) g2)
  · rw [b3 1, if_pos (by omega), o1 437 (by decide), o2 437 (by decide) (by decide)]; exact Int.le_refl _
  · unfold Tap at *
    rw [o2 419 (by decide) (by decide), o2 435 (by decide) (by decide), o2 420 (by decide) (by decide), o2 439 (by decide) (by decide)]; exact g4
  · unfold Fau at *
    rw [o2 424 (by decide) (by decide), o2 435 (by decide) (by decide)]; exact g5
  · intro r hr
    rw [o2 432 (by decide) (by decide)]; exact g6 r hr
  · rw [o2 435 (by decide) (by decide)]; exact g7
  · intro a ha k
    rw [o2 a (by omega) (by omega)]; exact g8 a ha k
end
