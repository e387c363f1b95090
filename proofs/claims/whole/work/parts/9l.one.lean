/-! THE READING: a ONE -/
section
variable {U U' K V V1 V3 J : Vm} {z : Zz} {s : Sm} {i j j2 c c2 d g p w k0 f o lo hi v : Int} {M M2 : (Int → Int) → Int → Int}
theorem y_numok (F : Fix z) (S : SO s) (P : Cp V s i c) (h0 : 0 ≤ i ∧ i ≤ sM s) (hk : sK s i = 38) (hv : sV s i = v) (hb : lo ≤ v ∧ v ≤ hi) (hr : 0 ≤ lo ∧ hi ≤ 10000) : cA m_Reader_number [.ref 424, .int (iv lo), .int (iv hi)] (em V J z) = some (.int (iv v), em (sv V 424 8 (i + 1)) J z) := by
  obtain ⟨p1, p2, p3, p4, p5⟩ := P
  have kd := y_kind (J := J) F S p1 (by omega)
  rw [p2, hk] at kd
  have S1 := S.1
  have wi := y_within (v := v) (lo := lo) (hi := hi) (h := em V J z) (by omega)
  rw [bz_T hb] at wi
  have c2 := p1.2.1
  simp (disch := first | decide | omega | (simp (disch := first | decide | omega) only [sv_s, sv_o, ur_s, ur_e, ur_o]; omega)) only [↓reduceIte, iv_add, iv_sub, iv_mul, iv_neg, iv_ltT, iv_ltF, iv_leT, iv_leF, iv_eqT, iv_eqF, iv_div, iv_mod, ↓bnI_s, ↓bnV_s, ↓bnJ_s, ↓bnR_s, rt_e, rt_0, rt_bz, sv_s, sv_o, ur_s, ur_e, ur_o, bz_T, bz_F, nat_eqF, Nat.reduceAdd, ↓q_Reader_number, ↓gR_424_0 F, ↓gR_419_3 F, ↓gI_424_8 F, ↓gI_424_9 F, ↓pI_424_8 F, ↓gd_424 F, il_0, il_1, il_2, il_3, il_4, il_8, il_9, il_20, il_38, p2, c2, y_get (s_422 F), rd_in, hv, kd, wi, p3]
theorem y_numout (F : Fix z) (S : SO s) (P : Cp V s i c) (h0 : 0 ≤ i ∧ i ≤ sM s) (hk : sK s i = 38) (hb : ¬ (lo ≤ sV s i ∧ sV s i ≤ hi)) (hr : 0 ≤ lo ∧ lo ≤ 10000 ∧ 0 ≤ hi ∧ hi ≤ 10000) : cA m_Reader_number [.ref 424, .int (iv lo), .int (iv hi)] (em V J z) = some (.int (iv (sV s i)), em (sv (sv V 424 9 2) 424 10 (sP s i)) J z) := by
  have fl := y_fail0 (J := J) (f := 2) F S P h0
  have vr := (S.rg h0.1 h0.2).2.2.2
  obtain ⟨p1, p2, p3, p4, p5⟩ := P
  have kd := y_kind (J := J) F S p1 (by omega)
  rw [p2, hk] at kd
  have S1 := S.1
  have wi := y_within (v := sV s i) (lo := lo) (hi := hi) (h := em V J z) (by omega)
  rw [bz_F hb] at wi
  have c2 := p1.2.1
  simp (disch := first | decide | omega | (simp (disch := first | decide | omega) only [sv_s, sv_o, ur_s, ur_e, ur_o]; omega)) only [↓reduceIte, iv_add, iv_sub, iv_mul, iv_neg, iv_ltT, iv_ltF, iv_leT, iv_leF, iv_eqT, iv_eqF, iv_div, iv_mod, ↓bnI_s, ↓bnV_s, ↓bnJ_s, ↓bnR_s, rt_e, rt_0, rt_bz, sv_s, sv_o, ur_s, ur_e, ur_o, bz_T, bz_F, nat_eqF, Nat.reduceAdd, ↓q_Reader_number, ↓gR_424_0 F, ↓gR_419_3 F, ↓gI_424_8 F, ↓gI_424_9 F, ↓pI_424_8 F, ↓gd_424 F, il_0, il_1, il_2, il_3, il_4, il_8, il_9, il_20, il_38, p2, c2, y_get (s_422 F), rd_in, kd, wi, fl]
theorem y_numno (F : Fix z) (S : SO s) (P : Cp V s i c) (h0 : 0 ≤ i ∧ i ≤ sM s) (hk : sK s i ≠ 38) : cA m_Reader_number [.ref 424, .int (iv lo), .int (iv hi)] (em V J z) = some (.int (iv (sV s i)), em (sv (sv V 424 9 1) 424 10 (sP s i)) J z) := by
  have fl := y_fail0 (J := J) (f := 1) F S P h0
  have kr := (S.rg h0.1 h0.2).2.2.1
  obtain ⟨p1, p2, p3, p4, p5⟩ := P
  have kd := y_kind (J := J) F S p1 (by omega)
  rw [p2] at kd
  have S1 := S.1
  have c2 := p1.2.1
  have hk' : sK s i < 38 ∨ 38 < sK s i := by omega
  generalize sK s i = k at *
  simp (disch := first | decide | omega | (simp (disch := first | decide | omega) only [sv_s, sv_o, ur_s, ur_e, ur_o]; omega)) only [↓reduceIte, iv_add, iv_sub, iv_mul, iv_neg, iv_ltT, iv_ltF, iv_leT, iv_leF, iv_eqT, iv_eqF, iv_div, iv_mod, ↓bnI_s, ↓bnV_s, ↓bnJ_s, ↓bnR_s, rt_e, rt_0, rt_bz, sv_s, sv_o, ur_s, ur_e, ur_o, bz_T, bz_F, nat_eqF, Nat.reduceAdd, ↓q_Reader_number, ↓gR_424_0 F, ↓gR_419_3 F, ↓gI_424_8 F, ↓gI_424_9 F, ↓pI_424_8 F, ↓gd_424 F, il_0, il_1, il_2, il_3, il_4, il_8, il_9, il_20, il_38, p2, c2, y_get (s_422 F), rd_in, kd, fl]
theorem y_numd (F : Fix z) (S : SO s) (D : Cd V s f g) (hr : 0 ≤ lo ∧ lo ≤ 10000 ∧ 0 ≤ hi ∧ hi ≤ 10000) : ∃ x, cA m_Reader_number [.ref 424, .int (iv lo), .int (iv hi)] (em V J z) = some (.int (iv x), em V J z) := by
  have f1 := y_faild (J := J) (x := 1) F D
  have f2 := y_faild (J := J) (x := 2) F D
  obtain ⟨d1, d2, ⟨d3, d3a, d3b⟩, d4, d5⟩ := D
  have kd := y_kind (J := J) F S d1 d2
  have q := S.rg d2.1 d2.2
  have kr := q.2.2.1
  have vr := q.2.2.2
  have S1 := S.1
  have c2 := d1.2.1
  have wi := y_within (v := sV s (V 424 8)) (lo := lo) (hi := hi) (h := em V J z) (by omega)
  refine ⟨sV s (V 424 8), ?_⟩
  clear q
  generalize hx : V 424 8 = x at *
  by_cases hk : sK s x = 38
  · rw [hk] at kd
    by_cases b : lo ≤ sV s x ∧ sV s x ≤ hi
    · rw [bz_T b] at wi
      simp (disch := first | decide | omega | (simp (disch := first | decide | omega) only [sv_s, sv_o, ur_s, ur_e, ur_o]; omega)) only [↓reduceIte, iv_add, iv_sub, iv_mul, iv_neg, iv_ltT, iv_ltF, iv_leT, iv_leF, iv_eqT, iv_eqF, iv_div, iv_mod, ↓bnI_s, ↓bnV_s, ↓bnJ_s, ↓bnR_s, rt_e, rt_0, rt_bz, sv_s, sv_o, ur_s, ur_e, ur_o, bz_T, bz_F, nat_eqF, Nat.reduceAdd, ↓q_Reader_number, ↓gR_424_0 F, ↓gR_419_3 F, ↓gI_424_8 F, ↓gI_424_9 F, ↓pI_424_8 F, ↓gd_424 F, il_0, il_1, il_2, il_3, il_4, il_8, il_9, il_20, il_38, hx, c2, y_get (s_422 F), rd_in, kd, wi, d3]
    · rw [bz_F b] at wi
      simp (disch := first | decide | omega | (simp (disch := first | decide | omega) only [sv_s, sv_o, ur_s, ur_e, ur_o]; omega)) only [↓reduceIte, iv_add, iv_sub, iv_mul, iv_neg, iv_ltT, iv_ltF, iv_leT, iv_leF, iv_eqT, iv_eqF, iv_div, iv_mod, ↓bnI_s, ↓bnV_s, ↓bnJ_s, ↓bnR_s, rt_e, rt_0, rt_bz, sv_s, sv_o, ur_s, ur_e, ur_o, bz_T, bz_F, nat_eqF, Nat.reduceAdd, ↓q_Reader_number, ↓gR_424_0 F, ↓gR_419_3 F, ↓gI_424_8 F, ↓gI_424_9 F, ↓pI_424_8 F, ↓gd_424 F, il_0, il_1, il_2, il_3, il_4, il_8, il_9, il_20, il_38, hx, c2, y_get (s_422 F), rd_in, kd, wi, f2]
  · have hk' : sK s x < 38 ∨ 38 < sK s x := by omega
    generalize sK s x = k at *
    simp (disch := first | decide | omega | (simp (disch := first | decide | omega) only [sv_s, sv_o, ur_s, ur_e, ur_o]; omega)) only [↓reduceIte, iv_add, iv_sub, iv_mul, iv_neg, iv_ltT, iv_ltF, iv_leT, iv_leF, iv_eqT, iv_eqF, iv_div, iv_mod, ↓bnI_s, ↓bnV_s, ↓bnJ_s, ↓bnR_s, rt_e, rt_0, rt_bz, sv_s, sv_o, ur_s, ur_e, ur_o, bz_T, bz_F, nat_eqF, Nat.reduceAdd, ↓q_Reader_number, ↓gR_424_0 F, ↓gR_419_3 F, ↓gI_424_8 F, ↓gI_424_9 F, ↓pI_424_8 F, ↓gd_424 F, il_0, il_1, il_2, il_3, il_4, il_8, il_9, il_20, il_38, hx, c2, y_get (s_422 F), rd_in, kd, f1]
theorem SO.lt (S : SO s) (h0 : 0 ≤ i) (h1 : i ≤ sM s) (n : sK s i ≠ 40) : i < sM s := by
  by_cases w : i = sM s
  · exact absurd ((S.2.2.2 i h0 h1).2.2.mpr w) n
  · omega
theorem cnm_nm {k : Int} (h : k = 3 ∨ (10 ≤ k ∧ k ≤ 15)) : cnm (nmO k) = k ∧ 0 ≤ nmO k ∧ nmO k < 7 := by
  have : k = 3 ∨ k = 10 ∨ k = 11 ∨ k = 12 ∨ k = 13 ∨ k = 14 ∨ k = 15 := by omega
  rcases this with rfl | rfl | rfl | rfl | rfl | rfl | rfl <;> decide
theorem nmO_none {k : Int} (h : ¬ (k = 3 ∨ (10 ≤ k ∧ k ≤ 15))) : nmO k = -1 := by
  unfold nmO
  rw [if_neg (by omega), if_neg (by omega), if_neg (by omega), if_neg (by omega), if_neg (by omega), if_neg (by omega), if_neg (by omega)]
theorem MoO.num (F : Fix z) (S : SO s) (hi' : 0 ≤ i ∧ i < sM s) (h1 : sK s i = 38) (h2 : sV s i ≤ 9999) : MoO z s i (i + 1) d 1 (fun _ _ => sV s i) := by
  intro U K p w k0 m hp hw ha
  have S1 := S.1
  have vr := (S.rg (j := i) (by omega) (by omega)).2.2.2
  obtain ⟨U', K', a1, a2, a3, a4, a5, a6⟩ := l_text (z := z) F S m.1 m.2.1 hi' (by omega) (Or.inl ⟨h1, h2, rfl, rfl⟩)
  exact ⟨U', K', a1, a2, a3, a4, ME_num hw.1 (by omega) a5 (by show U' 438 (sX s + 73 + (2 * w + 1)) = _; rw [show sX s + 73 + (2 * w + 1) = sX s + 73 + 2 * w + 1 by omega]; exact a6)⟩
theorem MoO.name_ (F : Fix z) (S : SO s) (hi' : 0 ≤ i ∧ i < sM s) (h1 : sK s i = 3 ∨ (10 ≤ sK s i ∧ sK s i ≤ 15)) (h2 : ¬ (sK s i = 14 ∧ sL s = 1)) (h3 : ¬ (sK s i = 15 ∧ sL s = 0)) : MoO z s i (i + 1) d 1 (fun A k => nmV A k (sK s i)) := by
  intro U K p w k0 m hp hw ha
  have S1 := S.1
  obtain ⟨c1, c2, c3⟩ := cnm_nm h1
  obtain ⟨U', K', a1, a2, a3, a4, a5, a6⟩ := l_text (z := z) F S m.1 m.2.1 hi' (by omega) (Or.inr ⟨c2, h2, h3, rfl, rfl⟩)
  have me := ME_name (mc := fun q => U' 438 (sX s + 73 + q)) (s := w) (m := nmO (sK s i)) hw.1 ⟨c2, c3⟩ a5 (by show U' 438 (sX s + 73 + (2 * w + 1)) = _; rw [show sX s + 73 + (2 * w + 1) = sX s + 73 + 2 * w + 1 by omega]; exact a6)
  rw [c1] at me
  exact ⟨U', K', a1, a2, a3, a4, me⟩
/-- what opens: the model -/
theorem open_go (F : Fix z) (S : SO s) (m : Md U K s i p d w k0) (hd : 0 ≤ d ∧ d ≤ 8) (hp : p ≤ 6 * d + 5) (hi' : 0 ≤ i ∧ i < sM s) (hk : (sK s i = 33 ∧ o = 40) ∨ (sK s i = 30 ∧ o = 5) ∨ (sK s i = 16 ∧ o = 2) ∨ (sK s i = 17 ∧ o = 4) ∨ (sK s i = 18 ∧ o = 41)) : (d = 8 → Lp (em U K z) = some (.int (iv 3), em U K z)) ∧ (d < 8 → ∃ U1 K1, Lp (em U K z) = Lp (em U1 K1 z) ∧ Ps U1 K1 s (i + 1) (p + 1) (d + 1) w ∧ U1 435 18 = 0 ∧ frQ s p w U U1 ∧ U1 440 p = o) := by
  obtain ⟨mp, m18, mpl⟩ := m
  have p0 := mpl.1
  have l39 := l_39 (z := z) F S mp m18 (by omega) (nmO_no (by omega))
  rw [y_39o F mp.1.2 hk] at l39
  have lop := l_opened (z := z) F S mp hi' hd (by omega) (o := o)
  refine ⟨fun h => l39.trans (lop.1 h), fun h => ?_⟩
  obtain ⟨U3, K3, b1, b2, b3, b4, b5⟩ := lop.2 h
  exact ⟨U3, K3, l39.trans b1, b2, b3.trans m18, b4, b5⟩
theorem MoO.par (F : Fix z) (S : SO s) (h : MoA z s 5 (i + 1) j (d + 1) g M) (hd : 0 ≤ d ∧ d < 8) (hi' : 0 ≤ i ∧ i + 1 < j ∧ j ≤ sM s) (hg : 0 < g ∧ g ≤ j - (i + 1)) (hs : StA s 5 j) (k : sK s i = 33) : (sK s j = 34 → MoO z s i (j + 1) d g M) ∧ (sK s j ≠ 34 → MnO z s i j 1 d) := by
  have S1 := S.1
  constructor
  · intro k34 U K p w k0 m hp hw ha
    have jm := S.lt (i := j) (by omega) (by omega) (by omega)
    obtain ⟨U1, K1, a1, a2, a3, a4, a5⟩ := (open_go F S m (by omega) hp (by omega) (Or.inl ⟨k, rfl⟩)).2 hd.2
    have pl := m.2.2.open_ (U' := U1) a4.2.2.1 a5 (by decide)
    have p0 := m.2.2.1
    obtain ⟨U', U'', K', b1, b2, b3, bt, on, se, b8, b9, b7, b10, b11⟩ := mid_go F h (by omega) (by omega) (by omega) hg hs ⟨a2, a3, pl.1⟩ p0 (by omega) (by omega) a5 (by omega)
    have pt := y_part40 (z := z) F b3.2
    rw [if_pos k34] at pt
    obtain ⟨U3, K3, c1, c2, c3, c4⟩ := l_shut (d := d) (p := p) (w := w + g) F S b2 bt on pt se b9 b8 (by omega)
    have f3 := (a4.tr (b10.lo (p := p) (by omega)) (Int.le_refl _) (Int.le_refl _)).tr c4 (Int.le_refl _) (by omega)
    exact ⟨U3, K3, a1.trans (b1.trans c1), c2, c3, f3, b11.ext (fun q q0 q1 => c4.2.2.2 _ (Or.inl (by omega)))⟩
  · intro k34 U K p w k0 m hp hw ha
    obtain ⟨U1, K1, a1, a2, a3, a4, a5⟩ := (open_go F S m (by omega) hp (by omega) (Or.inl ⟨k, rfl⟩)).2 hd.2
    have pl := m.2.2.open_ (U' := U1) a4.2.2.1 a5 (by decide)
    have p0 := m.2.2.1
    obtain ⟨U', U'', K', b1, b2, b3, bt, on, se, b8, b9, b7, b10, b11⟩ := mid_go F h (by omega) (by omega) (by omega) hg hs ⟨a2, a3, pl.1⟩ p0 (by omega) (by omega) a5 (by omega)
    have pt := y_part40 (z := z) F b3.2
    rw [if_neg k34] at pt
    exact ⟨U', K', a1.trans (b1.trans (l_none1 F b2 bt on (by decide) pt)), b3.2.2.1, a4.tr (b7.lo (p := p) (by omega)) (Int.le_refl _) (Int.le_refl _)⟩
theorem MnO.par_ (F : Fix z) (S : SO s) (h : MnA z s 5 (i + 1) j f (d + 1)) (hd : 0 ≤ d ∧ d < 8) (hi' : 0 ≤ i ∧ i < sM s) (k : sK s i = 33) : MnO z s i j f d := by
  intro U K p w k0 m hp hw ha
  obtain ⟨U1, K1, a1, a2, a3, a4, a5⟩ := (open_go F S m (by omega) hp (by omega) (Or.inl ⟨k, rfl⟩)).2 hd.2
  have pl := m.2.2.open_ (U' := U1) a4.2.2.1 a5 (by decide)
  have p0 := m.2.2.1
  have opno : opn U1 p = 40 := pl.2
  obtain ⟨U', K', b1, b2, b3⟩ := h U1 K1 (p + 1) w p ⟨a2, a3, pl.1⟩ (by omega) (by omega) (fun _ x => by have := x.1; omega) (Or.inr (by rw [show p + 1 - 1 = p by omega, a5]; decide))
  exact ⟨U', K', a1.trans b1, b2, a4.tr b3 (by omega) (Int.le_refl _)⟩
theorem MoO.un (F : Fix z) (S : SO s) (h : MoO z s (i + 1) j (d + 1) g M) (hd : 0 ≤ d ∧ d < 8) (hi' : 0 ≤ i ∧ i + 1 < j ∧ j ≤ sM s) (hg : 0 < g ∧ g ≤ j - (i + 1)) (B : MB M) {k : Int} (hk : (sK s i = 30 ∧ o = 5 ∧ k = 41) ∨ (sK s i = 16 ∧ o = 2 ∧ k = 16) ∨ (sK s i = 17 ∧ o = 4 ∧ k = 17)) : MoO z s i j d (g + 1) (fun A q => onV A k (M A q)) := by
  intro U K p w k0 m hp hw ha
  have S1 := S.1
  have p0 := m.2.2.1
  obtain ⟨U1, K1, a1, a2, a3, a4, a5⟩ := (open_go (o := o) F S m (by omega) hp (by omega) (by omega)).2 hd.2
  have pl := m.2.2.push (U' := U1) a4.2.2.1 a5 (by omega)
  obtain ⟨U2, K2, b1, b2, b3, b4, b5⟩ := h U1 K1 (p + 1) w k0 ⟨a2, a3, pl.1⟩ (by omega) (by omega) (fun _ x => by
    have x2 := x.2
    rw [show p + 1 - 1 = p by omega, a5] at x2
    omega)
  have t2 : U2 440 p = o := (b4.2.2.1 p (by omega)).trans a5
  obtain ⟨e1, e2, e3, e4, e5⟩ := pop_ F S b2 (by omega) (by omega) (by omega) t2 (by omega) b3
  have r7 : rk o = 7 := by rcases hk with h | h | h <;> rw [h.2.1] <;> rfl
  rw [if_pos (Or.inl r7), show d + 1 - 1 = d by omega] at e2
  rw [r7] at e1
  refine ⟨popM U2, K2, ?_, ?_, e3, (a4.tr b4 (by omega) (Int.le_refl _)).tr e4 (Int.le_refl _) (by omega), ?_⟩
  · rw [a1, b1]
    unfold S7
    rw [e1 7 (by decide) (by decide)]
  · rw [show w + (g + 1) = w + g + 1 by omega]; exact e2
  · rw [show w + (g + 1) = w + g + 1 by omega]
    exact ME_one (b5.ext (fun q q0 q1 => e4.2.2.2 _ (Or.inl (by omega)))) B (c := k) (o := o) (by omega) e5
theorem MnO.un (F : Fix z) (S : SO s) (h : MnO z s (i + 1) j f (d + 1)) (hd : 0 ≤ d ∧ d < 8) (hi' : 0 ≤ i ∧ i < sM s) (hk : sK s i = 30 ∨ sK s i = 16 ∨ sK s i = 17) : MnO z s i j f d := by
  intro U K p w k0 m hp hw ha
  have p0 := m.2.2.1
  obtain ⟨o, ho⟩ : ∃ o : Int, (sK s i = 30 ∧ o = 5) ∨ (sK s i = 16 ∧ o = 2) ∨ (sK s i = 17 ∧ o = 4) := by
    rcases hk with h | h | h
    · exact ⟨5, Or.inl ⟨h, rfl⟩⟩
    · exact ⟨2, Or.inr (Or.inl ⟨h, rfl⟩)⟩
    · exact ⟨4, Or.inr (Or.inr ⟨h, rfl⟩)⟩
  obtain ⟨U1, K1, a1, a2, a3, a4, a5⟩ := (open_go (o := o) F S m (by omega) hp (by omega) (by omega)).2 hd.2
  have pl := m.2.2.push (U' := U1) a4.2.2.1 a5 (by omega)
  obtain ⟨U2, K2, b1, b2, b3⟩ := h U1 K1 (p + 1) w k0 ⟨a2, a3, pl.1⟩ (by omega) (by omega) (fun _ x => by
    have x2 := x.2
    rw [show p + 1 - 1 = p by omega, a5] at x2
    omega)
  exact ⟨U2, K2, a1.trans b1, b2, a4.tr b3 (by omega) (Int.le_refl _)⟩
theorem MoO.if_ (F : Fix z) (S : SO s) (h : MoC z s (i + 1) j (d + 1) g M) (hd : 0 ≤ d ∧ d < 8) (hi' : 0 ≤ i ∧ i < sM s) (k : sK s i = 18) : MoO z s i j d g M := by
  intro U K p w k0 m hp hw ha
  have p0 := m.2.2.1
  obtain ⟨U1, K1, a1, a2, a3, a4, a5⟩ := (open_go (o := 41) F S m (by omega) hp (by omega) (by omega)).2 hd.2
  have pl := m.2.2.open_ (U' := U1) a4.2.2.1 a5 (by decide)
  obtain ⟨U2, K2, b1, b2, b3, b4, b5⟩ := h U1 K1 p w ⟨a2, a3, pl.1⟩ a5 (by omega) (by omega) p0
  exact ⟨U2, K2, a1.trans b1, by rw [show d + 1 - 1 = d by omega] at b2; exact b2, b3, a4.tr b4 (Int.le_refl _) (Int.le_refl _), b5⟩
theorem MnO.if_ (F : Fix z) (S : SO s) (h : MnC z s (i + 1) j f (d + 1)) (hd : 0 ≤ d ∧ d < 8) (hi' : 0 ≤ i ∧ i < sM s) (k : sK s i = 18) : MnO z s i j f d := by
  intro U K p w k0 m hp hw ha
  have p0 := m.2.2.1
  obtain ⟨U1, K1, a1, a2, a3, a4, a5⟩ := (open_go (o := 41) F S m (by omega) hp (by omega) (by omega)).2 hd.2
  have pl := m.2.2.open_ (U' := U1) a4.2.2.1 a5 (by decide)
  obtain ⟨U2, K2, b1, b2, b3⟩ := h U1 K1 p w ⟨a2, a3, pl.1⟩ a5 (by omega) (by omega) p0
  exact ⟨U2, K2, a1.trans b1, b2, a4.tr b3 (Int.le_refl _) (Int.le_refl _)⟩
theorem MnO.same (h : ∀ U K p w k0, Md U K s i p d w k0 → p ≤ 6 * d + 5 → (sK s i = 24 → ¬ AH U p k0) → Lp (em U K z) = some (.int (iv f), em U K z)) : MnO z s i i f d := fun U K p w k0 m hp _ ha => ⟨U, K, h U K p w k0 m hp ha, m.1.1.2.2.1, frQ.rfl_⟩
theorem nm_MB {k : Int} : MB (fun A q => nmV A q k) := fun V t A q hK hq => by
  have := nmV_b (c := k) hK hq
  show Bd (nmV A q k)
  unfold Bd
  omega
theorem on_MB {k : Int} (b : MB M) : MB (fun A q => onV A k (M A q)) := fun V t A q hK hq => onV_b hK (b V t A q hK hq)
end
