/-! THE READING: clauses, what both have read; the model's clause -/
def Cc (V : Vm) (s : Sm) (i n c ra ba : Int) : Prop := Cs V s ∧ V 424 8 = i ∧ V 424 9 = 0 ∧ V 424 3 = n ∧ V 424 4 = c ∧ V 424 5 = ra ∧ V 424 6 = ba ∧ V 424 10 = -1
def Uc (U K : Vm) (s : Sm) (i n w on : Int) : Prop := Mt U K s i ∧ U 435 12 = sX s ∧ U 438 (sX s) = n ∧ U 435 13 = w ∧ U 435 19 = on
def LT (W D : Int → Int) (c w X n s a : Int) : Prop :=
  (a = -1 ∧ ∀ k, 0 ≤ k → k < n → W (X + 1 + 3 * k) ≠ s) ∨
  ∃ (k p wb we : Int) (M : (Int → Int) → Int → Int), (0 ≤ k ∧ k < n) ∧ W (X + 1 + 3 * k) = s ∧ (∀ j, 0 ≤ j → j < k → W (X + 1 + 3 * j) ≠ s) ∧ CE D a p M ∧ (p < c ∧ D p = 35) ∧ W (X + 1 + 3 * k + 1) = wb ∧ W (X + 1 + 3 * k + 2) = we ∧ we ≤ w ∧ ME (fun j => W (X + 73 + j)) wb we M ∧ MB M
def Rt (V U : Vm) (s : Sm) (i n c w ra ba on : Int) : Prop := (0 ≤ n ∧ n ≤ 24) ∧ (0 ≤ c ∧ c ≤ i) ∧ (0 ≤ w ∧ w ≤ i) ∧ (∀ k, 0 ≤ k → k < n → CLR (V 425 (3 * k)) (V 425 (3 * k + 1)) (V 425 (3 * k + 2)) (U 438 (sX s + 1 + 3 * k)) (U 438 (sX s + 1 + 3 * k + 1)) (U 438 (sX s + 1 + 3 * k + 2))) ∧ LT (U 438) (V 426) c w (sX s) n 0 ra ∧ LT (U 438) (V 426) c w (sX s) n 1 ba ∧ (0 ≤ on ∧ on ≤ 3) ∧ (on % 2 = 1 ↔ ra ≠ -1) ∧ (on / 2 = 1 ↔ ba ≠ -1)
theorem LT.mono {W W' D D' : Int → Int} {c c' w w' X n s a : Int} (h : LT W D c w X n s a) (hn : 0 ≤ n ∧ n ≤ 24) (hw : 0 ≤ w) (cl : ∀ q, X + 1 ≤ q → q < X + 1 + 3 * n → W' q = W q) (co : ∀ q, X + 73 ≤ q → q < X + 73 + 2 * w → W' q = W q) (d : ∀ q, q < c → D' q = D q) (ns : W' (X + 1 + 3 * n) ≠ s) (hc : c ≤ c') (hw' : w ≤ w') : LT W' D' c' w' X (n + 1) s a := by
  rcases h with ⟨h1, h2⟩ | ⟨k, p, wb, we, M, h1, h2, h3, h4, h5, h6, h7, h8, h9, h10⟩
  · refine Or.inl ⟨h1, fun k k0 k1 => ?_⟩
    by_cases e : k = n
    · rw [e]; exact ns
    · rw [cl _ (by omega) (by omega)]; exact h2 k k0 (by omega)
  · have m0 := h9.1
    refine Or.inr ⟨k, p, wb, we, M, by omega, (cl _ (by omega) (by omega)).trans h2, fun j j0 j1 => by rw [cl _ (by omega) (by omega)]; exact h3 j j0 j1, h4.ext (fun q q0 q1 => d q (by omega)), ⟨by omega, (d p h5.1).trans h5.2⟩, (cl _ (by omega) (by omega)).trans h6, (cl _ (by omega) (by omega)).trans h7, by omega, h9.ext (fun q q0 q1 => co _ (by omega) (by omega)), h10⟩
theorem LT.new {W W' D D' : Int → Int} {c c' w g X n s p : Int} {M : (Int → Int) → Int → Int} (h : LT W D c w X n s (-1)) (c0 : 0 ≤ c) (hn : 0 ≤ n ∧ n ≤ 24) (cl : ∀ q, X + 1 ≤ q → q < X + 1 + 3 * n → W' q = W q) (hs : W' (X + 1 + 3 * n) = s) (C : CE D' c p M) (hp : p < c') (h35 : D' p = 35) (h1 : W' (X + 1 + 3 * n + 1) = w) (h2 : W' (X + 1 + 3 * n + 2) = w + g) (m : ME (fun j => W' (X + 73 + j)) w (w + g) M) (B : MB M) : LT W' D' c' (w + g) X (n + 1) s c := by
  have no : ∀ k, 0 ≤ k → k < n → W (X + 1 + 3 * k) ≠ s := by
    rcases h with ⟨_, h2⟩ | ⟨k, p, wb, we, M, _, _, _, h4, _⟩
    · exact h2
    · have := h4.1; omega
  exact Or.inr ⟨n, p, w, w + g, M, by omega, hs, fun j j0 j1 => by rw [cl _ (by omega) (by omega)]; exact no j j0 j1, C, ⟨hp, h35⟩, h1, h2, Int.le_refl _, m, B⟩
theorem srt_rg {k : Int} : -1 ≤ srt k ∧ srt k ≤ 7 := by
  unfold srt
  repeat' split
  all_goals omega
theorem srt_01 {k : Int} : (srt k = 0 ↔ k = 0) ∧ (srt k = 1 ↔ k = 1) := by
  unfold srt
  repeat' split
  all_goals omega
noncomputable def cB (σ x : Int) (h : Mem) : Rs := bnI (cA m_M_body [.ref 435, .int (iv σ), .int (iv x)] h) fun w7 h6 => if w7 = 0 then (gfR h6 11 2 435 fun w8 => gfI h6 11 12 435 fun w9 => ldI h6 w8 w9 fun w10 => stI h6 w8 w9 (w10 + 1) fun h11 => gfI h11 11 9 435 fun w12 => if w12 = 59 then bnV (cA m_M_nextToken [.ref 435] h11) fun h13 => some (.int 0, h13) else some (.int 1, h11)) else some (.int w7, h6)
section
variable {U U1 U2 K K1 K2 : Vm} {z : Zz} {s : Sm} {i j n w on x σ f : Int}
theorem c_sort (F : Fix z) (S : SO s) (T : Mt U K s i) (hi' : 0 ≤ i ∧ i ≤ sM s) : cA m_M_sortOf [.ref 435] (em U K z) = some (.int (iv (srt (sK s i))), em U K z) := by
  have rg := S.rg hi'.1 hi'.2
  exact y_sortOf F T.1 T.2 ⟨rg.1.1, rg.2.1.2⟩
theorem bit_on (h : 0 ≤ on ∧ on ≤ 3) : (sb on 0 ↔ on % 2 = 1) ∧ (sb on 1 ↔ on / 2 = 1) ∧ (¬ (on % 2 = 1) → iv on ||| (iv 1 <<< (iv 0 &&& iv 31)) = iv (on + 1)) ∧ (¬ (on / 2 = 1) → iv on ||| (iv 1 <<< (iv 1 &&& iv 31)) = iv (on + 2)) := by
  have : on = 0 ∨ on = 1 ∨ on = 2 ∨ on = 3 := by omega
  rcases this with rfl | rfl | rfl | rfl <;> decide
theorem c_no (F : Fix z) (S : SO s) (P : Uc U K s i n w on) (hi' : 0 ≤ i ∧ i ≤ sM s) (h : srt (sK s i) = -1) : cA m_M_clause [.ref 435] (em U K z) = some (.int (iv 1), em U K z) := by
  have so := c_sort F S P.1 hi'
  rw [h] at so
  simp (disch := first | decide | omega | (simp (disch := first | decide | omega) only [sv_s, sv_o, ur_s, ur_e, ur_o]; omega)) only [↓reduceIte, iv_add, iv_sub, iv_mul, iv_neg, iv_ltT, iv_ltF, iv_leT, iv_leF, iv_eqT, iv_eqF, iv_div, iv_mod, ↓bnI_s, ↓bnV_s, ↓bnJ_s, ↓bnR_s, rt_e, rt_0, rt_bz, sv_s, sv_o, ur_s, ur_e, ur_o, bz_T, bz_F, nat_eqF, Nat.reduceAdd, ↓q_M_clause, ↓gI_435_19 F, ↓gd_435 F, il_0, il_1, il_4, il_11, il_19, il_27, il_29, so]
theorem c_again (F : Fix z) (S : SO s) (P : Uc U K s i n w on) (hi' : 0 ≤ i ∧ i ≤ sM s) (ho : 0 ≤ on ∧ on ≤ 3) (h : (srt (sK s i) = 0 ∧ on % 2 = 1) ∨ (srt (sK s i) = 1 ∧ on / 2 = 1)) : cA m_M_clause [.ref 435] (em U K z) = some (.int (iv 4), em U K z) := by
  have so := c_sort F S P.1 hi'
  obtain ⟨b1, b2, b3, b4⟩ := bit_on ho
  have p5 := P.2.2.2.2
  rcases h with ⟨h1, h2⟩ | ⟨h1, h2⟩
  · rw [h1] at so
    have hs := y_M_has (s := on) (k := 0) (h := em U K z)
    rw [bz_T (b1.mpr h2)] at hs
    simp (disch := first | decide | omega | (simp (disch := first | decide | omega) only [sv_s, sv_o, ur_s, ur_e, ur_o]; omega)) only [↓reduceIte, iv_add, iv_sub, iv_mul, iv_neg, iv_ltT, iv_ltF, iv_leT, iv_leF, iv_eqT, iv_eqF, iv_div, iv_mod, ↓bnI_s, ↓bnV_s, ↓bnJ_s, ↓bnR_s, rt_e, rt_0, rt_bz, sv_s, sv_o, ur_s, ur_e, ur_o, bz_T, bz_F, nat_eqF, Nat.reduceAdd, ↓q_M_clause, ↓gI_435_19 F, ↓gd_435 F, il_0, il_1, il_4, il_11, il_19, il_27, il_29, so, p5, hs]
  · rw [h1] at so
    have hs := y_M_has (s := on) (k := 1) (h := em U K z)
    rw [bz_T (b2.mpr h2)] at hs
    simp (disch := first | decide | omega | (simp (disch := first | decide | omega) only [sv_s, sv_o, ur_s, ur_e, ur_o]; omega)) only [↓reduceIte, iv_add, iv_sub, iv_mul, iv_neg, iv_ltT, iv_ltF, iv_leT, iv_leF, iv_eqT, iv_eqF, iv_div, iv_mod, ↓bnI_s, ↓bnV_s, ↓bnJ_s, ↓bnR_s, rt_e, rt_0, rt_bz, sv_s, sv_o, ur_s, ur_e, ur_o, bz_T, bz_F, nat_eqF, Nat.reduceAdd, ↓q_M_clause, ↓gI_435_19 F, ↓gd_435 F, il_0, il_1, il_4, il_11, il_19, il_27, il_29, so, p5, hs]
theorem c_29 (F : Fix z) (S : SO s) (P : Uc U K s i n w on) (hi' : 0 ≤ i ∧ i ≤ sM s) (ho : 0 ≤ on ∧ on ≤ 3) (hσ : srt (sK s i) = σ ∧ 0 ≤ σ) (h : ¬ ((σ = 0 ∧ on % 2 = 1) ∨ (σ = 1 ∧ on / 2 = 1))) : cA m_M_clause [.ref 435] (em U K z) = rX m_M_clause m_M_clause 29 [.ref 435, .int (iv σ), dd, dd, dd] [] (em U K z) := by
  have so := c_sort F S P.1 hi'
  obtain ⟨b1, b2, b3, b4⟩ := bit_on ho
  have p5 := P.2.2.2.2
  have sr := srt_rg (k := sK s i)
  rw [hσ.1] at so sr
  by_cases h0 : σ = 0
  · subst h0
    have hs := y_M_has (s := on) (k := 0) (h := em U K z)
    rw [bz_F (fun q => h (Or.inl ⟨rfl, b1.mp q⟩))] at hs
    simp (disch := first | decide | omega | (simp (disch := first | decide | omega) only [sv_s, sv_o, ur_s, ur_e, ur_o]; omega)) only [↓reduceIte, iv_add, iv_sub, iv_mul, iv_neg, iv_ltT, iv_ltF, iv_leT, iv_leF, iv_eqT, iv_eqF, iv_div, iv_mod, ↓bnI_s, ↓bnV_s, ↓bnJ_s, ↓bnR_s, rt_e, rt_0, rt_bz, sv_s, sv_o, ur_s, ur_e, ur_o, bz_T, bz_F, nat_eqF, Nat.reduceAdd, ↓q_M_clause, ↓gI_435_19 F, ↓gd_435 F, il_0, il_1, il_4, il_11, il_19, il_27, il_29, so, p5, hs]
  · by_cases h1 : σ = 1
    · subst h1
      have hs := y_M_has (s := on) (k := 1) (h := em U K z)
      rw [bz_F (fun q => h (Or.inr ⟨rfl, b2.mp q⟩))] at hs
      simp (disch := first | decide | omega | (simp (disch := first | decide | omega) only [sv_s, sv_o, ur_s, ur_e, ur_o]; omega)) only [↓reduceIte, iv_add, iv_sub, iv_mul, iv_neg, iv_ltT, iv_ltF, iv_leT, iv_leF, iv_eqT, iv_eqF, iv_div, iv_mod, ↓bnI_s, ↓bnV_s, ↓bnJ_s, ↓bnR_s, rt_e, rt_0, rt_bz, sv_s, sv_o, ur_s, ur_e, ur_o, bz_T, bz_F, nat_eqF, Nat.reduceAdd, ↓q_M_clause, ↓gI_435_19 F, ↓gd_435 F, il_0, il_1, il_4, il_11, il_19, il_27, il_29, so, p5, hs]
    · have h2 : 2 ≤ σ := by omega
      simp (disch := first | decide | omega | (simp (disch := first | decide | omega) only [sv_s, sv_o, ur_s, ur_e, ur_o]; omega)) only [↓reduceIte, iv_add, iv_sub, iv_mul, iv_neg, iv_ltT, iv_ltF, iv_leT, iv_leF, iv_eqT, iv_eqF, iv_div, iv_mod, ↓bnI_s, ↓bnV_s, ↓bnJ_s, ↓bnR_s, rt_e, rt_0, rt_bz, sv_s, sv_o, ur_s, ur_e, ur_o, bz_T, bz_F, nat_eqF, Nat.reduceAdd, ↓q_M_clause, ↓gI_435_19 F, ↓gd_435 F, il_0, il_1, il_4, il_11, il_19, il_27, il_29, so]
theorem c_full (F : Fix z) (S : SO s) (P : Uc U K s i n w on) (hn : n = 24) : rX m_M_clause m_M_clause 29 [.ref 435, .int (iv σ), dd, dd, dd] [] (em U K z) = some (.int (iv 6), em U K z) := by
  have S2 := S.2.1
  obtain ⟨p1, p2, p3, p4, p5⟩ := P
  rw [hn] at p3
  (rw [q_M_clause_29]; simp (disch := first | decide | omega | (simp (disch := first | decide | omega) only [sv_s, sv_o, ur_s, ur_e, ur_o]; omega)) only [↓reduceIte, iv_add, iv_sub, iv_mul, iv_neg, iv_ltT, iv_ltF, iv_leT, iv_leF, iv_eqT, iv_eqF, iv_div, iv_mod, ↓bnI_s, ↓bnV_s, ↓bnJ_s, ↓bnR_s, rt_e, rt_0, rt_bz, sv_s, sv_o, ur_s, ur_e, ur_o, bz_T, bz_F, nat_eqF, Nat.reduceAdd, ↓gR_435_2 F, ↓gI_435_12 F, ↓gI_435_19 F, ↓pI_435_19 F, ↓lI_436 F, ↓lI_437 F, ↓lI_438 F, ↓lI_439 F, ↓lI_440 F, ↓lI_441 F, ↓lI_443 F, ↓lI_444 F, ↓lI_445 F, ↓lI_446 F, ↓lI_447 F, ↓lI_448 F, ↓lI_449 F, ↓lI_450 F, il_0, il_1, il_2, il_6, il_11, il_12, il_19, il_24, il_29, il_31, il_65, p2, p3])
theorem c_go (F : Fix z) (S : SO s) (P : Uc U K s i n w on) (hi' : 0 ≤ i ∧ i < sM s) (ho : 0 ≤ on ∧ on ≤ 3) (hn : 0 ≤ n ∧ n < 24) (hσ : 0 ≤ σ ∧ σ ≤ 7) (h : ¬ ((σ = 0 ∧ on % 2 = 1) ∨ (σ = 1 ∧ on / 2 = 1))) : ∃ U1 K1, rX m_M_clause m_M_clause 29 [.ref 435, .int (iv σ), dd, dd, dd] [] (em U K z) = cB σ (sX s + 1 + 3 * n) (em U1 K1 z) ∧ Mt U1 K1 s (i + 1) ∧ U1 435 14 = σ ∧ U1 435 19 = (if σ = 0 then on + 1 else if σ = 1 then on + 2 else on) ∧ U1 435 12 = sX s ∧ U1 435 13 = w ∧ U1 438 (sX s) = n ∧ U1 438 (sX s + 1 + 3 * n) = σ ∧ (∀ q, q ≠ sX s + 1 + 3 * n → U1 438 q = U 438 q) ∧ frW s U U1 := by
  have S2 := S.2.1
  obtain ⟨p1, p2, p3, p4, p5⟩ := P
  obtain ⟨b1, b2, b3, b4⟩ := bit_on ho
  obtain ⟨on', hon⟩ : ∃ on', on' = if σ = 0 then on + 1 else if σ = 1 then on + 2 else on := ⟨_, rfl⟩
  obtain ⟨W, hW⟩ : ∃ W, W = sv (sv U 435 19 on') 435 14 σ := ⟨_, rfl⟩
  have TW : Mt W K s i := p1.c (by rw [hW]; simp (disch := first | decide | omega | (simp (disch := first | decide | omega) only [sv_s, sv_o, ur_s, ur_e, ur_o]; omega)) only [↓reduceIte, iv_add, iv_sub, iv_mul, iv_neg, iv_ltT, iv_ltF, iv_leT, iv_leF, iv_eqT, iv_eqF, iv_div, iv_mod, ↓bnI_s, ↓bnV_s, ↓bnJ_s, ↓bnR_s, rt_e, rt_0, rt_bz, sv_s, sv_o, ur_s, ur_e, ur_o, bz_T, bz_F, nat_eqF, Nat.reduceAdd]) (fun q hq => by rw [hW]; simp (disch := first | decide | omega | (simp (disch := first | decide | omega) only [sv_s, sv_o, ur_s, ur_e, ur_o]; omega)) only [↓reduceIte, iv_add, iv_sub, iv_mul, iv_neg, iv_ltT, iv_ltF, iv_leT, iv_leF, iv_eqT, iv_eqF, iv_div, iv_mod, ↓bnI_s, ↓bnV_s, ↓bnJ_s, ↓bnR_s, rt_e, rt_0, rt_bz, sv_s, sv_o, ur_s, ur_e, ur_o, bz_T, bz_F, nat_eqF, Nat.reduceAdd])
  obtain ⟨U2, K2, n1, n2, n3⟩ := TW.nextT F S hi'
  have u12 : U2 435 12 = sX s := by rw [n2.2 12 (by decide) (by decide) (by decide) (by decide), hW]; simp (disch := first | decide | omega | (simp (disch := first | decide | omega) only [sv_s, sv_o, ur_s, ur_e, ur_o]; omega)) only [↓reduceIte, iv_add, iv_sub, iv_mul, iv_neg, iv_ltT, iv_ltF, iv_leT, iv_leF, iv_eqT, iv_eqF, iv_div, iv_mod, ↓bnI_s, ↓bnV_s, ↓bnJ_s, ↓bnR_s, rt_e, rt_0, rt_bz, sv_s, sv_o, ur_s, ur_e, ur_o, bz_T, bz_F, nat_eqF, Nat.reduceAdd, p2]
  have u438 : U2 438 = U 438 := by rw [n2.1 438 (by decide), hW]; simp (disch := first | decide | omega | (simp (disch := first | decide | omega) only [sv_s, sv_o, ur_s, ur_e, ur_o]; omega)) only [↓reduceIte, iv_add, iv_sub, iv_mul, iv_neg, iv_ltT, iv_ltF, iv_leT, iv_leF, iv_eqT, iv_eqF, iv_div, iv_mod, ↓bnI_s, ↓bnV_s, ↓bnJ_s, ↓bnR_s, rt_e, rt_0, rt_bz, sv_s, sv_o, ur_s, ur_e, ur_o, bz_T, bz_F, nat_eqF, Nat.reduceAdd]
  have fW : frW s U U2 := by
    have f0 : frW s U W := by rw [hW]; exact (frW.w5 (by omega)).tr (frW.w5 (by omega))
    exact f0.tr n2.w_
  have st : rX m_M_clause m_M_clause 29 [.ref 435, .int (iv σ), dd, dd, dd] [] (em U K z) = rX m_M_clause m_M_clause 65 [.ref 435, .int (iv σ), .int (iv n), dd, dd] [] (em (sv U 435 19 on') K z) := by
    rw [hon]
    by_cases h0 : σ = 0
    · rw [if_pos h0]
      have e := b3 (fun q => h (Or.inl ⟨h0, q⟩))
      subst h0
      (rw [q_M_clause_29]; simp (disch := first | decide | omega | (simp (disch := first | decide | omega) only [sv_s, sv_o, ur_s, ur_e, ur_o]; omega)) only [↓reduceIte, iv_add, iv_sub, iv_mul, iv_neg, iv_ltT, iv_ltF, iv_leT, iv_leF, iv_eqT, iv_eqF, iv_div, iv_mod, ↓bnI_s, ↓bnV_s, ↓bnJ_s, ↓bnR_s, rt_e, rt_0, rt_bz, sv_s, sv_o, ur_s, ur_e, ur_o, bz_T, bz_F, nat_eqF, Nat.reduceAdd, ↓gR_435_2 F, ↓gI_435_12 F, ↓gI_435_19 F, ↓pI_435_19 F, ↓lI_436 F, ↓lI_437 F, ↓lI_438 F, ↓lI_439 F, ↓lI_440 F, ↓lI_441 F, ↓lI_443 F, ↓lI_444 F, ↓lI_445 F, ↓lI_446 F, ↓lI_447 F, ↓lI_448 F, ↓lI_449 F, ↓lI_450 F, il_0, il_1, il_2, il_6, il_11, il_12, il_19, il_24, il_29, il_31, il_65, p2, p3, p5, e])
    · by_cases h1 : σ = 1
      · rw [if_neg h0, if_pos h1]
        have e := b4 (fun q => h (Or.inr ⟨h1, q⟩))
        subst h1
        (rw [q_M_clause_29]; simp (disch := first | decide | omega | (simp (disch := first | decide | omega) only [sv_s, sv_o, ur_s, ur_e, ur_o]; omega)) only [↓reduceIte, iv_add, iv_sub, iv_mul, iv_neg, iv_ltT, iv_ltF, iv_leT, iv_leF, iv_eqT, iv_eqF, iv_div, iv_mod, ↓bnI_s, ↓bnV_s, ↓bnJ_s, ↓bnR_s, rt_e, rt_0, rt_bz, sv_s, sv_o, ur_s, ur_e, ur_o, bz_T, bz_F, nat_eqF, Nat.reduceAdd, ↓gR_435_2 F, ↓gI_435_12 F, ↓gI_435_19 F, ↓pI_435_19 F, ↓lI_436 F, ↓lI_437 F, ↓lI_438 F, ↓lI_439 F, ↓lI_440 F, ↓lI_441 F, ↓lI_443 F, ↓lI_444 F, ↓lI_445 F, ↓lI_446 F, ↓lI_447 F, ↓lI_448 F, ↓lI_449 F, ↓lI_450 F, il_0, il_1, il_2, il_6, il_11, il_12, il_19, il_24, il_29, il_31, il_65, p2, p3, p5, e])
      · rw [if_neg h0, if_neg h1]
        have h2 : 2 ≤ σ := by omega
        have e : sv U 435 19 on = U := by
          funext a q
          by_cases ha : a = 435
          · subst ha
            by_cases hq : q = 19
            · subst hq; simp (disch := first | decide | omega | (simp (disch := first | decide | omega) only [sv_s, sv_o, ur_s, ur_e, ur_o]; omega)) only [↓reduceIte, iv_add, iv_sub, iv_mul, iv_neg, iv_ltT, iv_ltF, iv_leT, iv_leF, iv_eqT, iv_eqF, iv_div, iv_mod, ↓bnI_s, ↓bnV_s, ↓bnJ_s, ↓bnR_s, rt_e, rt_0, rt_bz, sv_s, sv_o, ur_s, ur_e, ur_o, bz_T, bz_F, nat_eqF, Nat.reduceAdd, p5]
            · simp (disch := first | decide | omega | (simp (disch := first | decide | omega) only [sv_s, sv_o, ur_s, ur_e, ur_o]; omega)) only [↓reduceIte, iv_add, iv_sub, iv_mul, iv_neg, iv_ltT, iv_ltF, iv_leT, iv_leF, iv_eqT, iv_eqF, iv_div, iv_mod, ↓bnI_s, ↓bnV_s, ↓bnJ_s, ↓bnR_s, rt_e, rt_0, rt_bz, sv_s, sv_o, ur_s, ur_e, ur_o, bz_T, bz_F, nat_eqF, Nat.reduceAdd]
          · simp (disch := first | decide | omega | (simp (disch := first | decide | omega) only [sv_s, sv_o, ur_s, ur_e, ur_o]; omega)) only [↓reduceIte, iv_add, iv_sub, iv_mul, iv_neg, iv_ltT, iv_ltF, iv_leT, iv_leF, iv_eqT, iv_eqF, iv_div, iv_mod, ↓bnI_s, ↓bnV_s, ↓bnJ_s, ↓bnR_s, rt_e, rt_0, rt_bz, sv_s, sv_o, ur_s, ur_e, ur_o, bz_T, bz_F, nat_eqF, Nat.reduceAdd]
        rw [e]
        (rw [q_M_clause_29]; simp (disch := first | decide | omega | (simp (disch := first | decide | omega) only [sv_s, sv_o, ur_s, ur_e, ur_o]; omega)) only [↓reduceIte, iv_add, iv_sub, iv_mul, iv_neg, iv_ltT, iv_ltF, iv_leT, iv_leF, iv_eqT, iv_eqF, iv_div, iv_mod, ↓bnI_s, ↓bnV_s, ↓bnJ_s, ↓bnR_s, rt_e, rt_0, rt_bz, sv_s, sv_o, ur_s, ur_e, ur_o, bz_T, bz_F, nat_eqF, Nat.reduceAdd, ↓gR_435_2 F, ↓gI_435_12 F, ↓gI_435_19 F, ↓pI_435_19 F, ↓lI_436 F, ↓lI_437 F, ↓lI_438 F, ↓lI_439 F, ↓lI_440 F, ↓lI_441 F, ↓lI_443 F, ↓lI_444 F, ↓lI_445 F, ↓lI_446 F, ↓lI_447 F, ↓lI_448 F, ↓lI_449 F, ↓lI_450 F, il_0, il_1, il_2, il_6, il_11, il_12, il_19, il_24, il_29, il_31, il_65, p2, p3])
  have st2 : rX m_M_clause m_M_clause 65 [.ref 435, .int (iv σ), .int (iv n), dd, dd] [] (em (sv U 435 19 on') K z) = cB σ (sX s + 1 + 3 * n) (em (sv U2 438 (sX s + 1 + 3 * n) σ) K2 z) := by
    rw [hW] at n1
    unfold cB
    rw [q_M_clause_65, pI_435_14 F, n1, bnV_s, gI_435_12 F, gR_435_2 F, u12, il_1, iv_add (sX s) 1, il_3, iv_mul 3 n, iv_add (sX s + 1) (3 * n), sI_438 F (by omega)]
  refine ⟨sv U2 438 (sX s + 1 + 3 * n) σ, K2, st.trans st2, n3.c (by simp (disch := first | decide | omega | (simp (disch := first | decide | omega) only [sv_s, sv_o, ur_s, ur_e, ur_o]; omega)) only [↓reduceIte, iv_add, iv_sub, iv_mul, iv_neg, iv_ltT, iv_ltF, iv_leT, iv_leF, iv_eqT, iv_eqF, iv_div, iv_mod, ↓bnI_s, ↓bnV_s, ↓bnJ_s, ↓bnR_s, rt_e, rt_0, rt_bz, sv_s, sv_o, ur_s, ur_e, ur_o, bz_T, bz_F, nat_eqF, Nat.reduceAdd]) (fun q hq => by simp (disch := first | decide | omega | (simp (disch := first | decide | omega) only [sv_s, sv_o, ur_s, ur_e, ur_o]; omega)) only [↓reduceIte, iv_add, iv_sub, iv_mul, iv_neg, iv_ltT, iv_ltF, iv_leT, iv_leF, iv_eqT, iv_eqF, iv_div, iv_mod, ↓bnI_s, ↓bnV_s, ↓bnJ_s, ↓bnR_s, rt_e, rt_0, rt_bz, sv_s, sv_o, ur_s, ur_e, ur_o, bz_T, bz_F, nat_eqF, Nat.reduceAdd]), ?_, ?_, by simp (disch := first | decide | omega | (simp (disch := first | decide | omega) only [sv_s, sv_o, ur_s, ur_e, ur_o]; omega)) only [↓reduceIte, iv_add, iv_sub, iv_mul, iv_neg, iv_ltT, iv_ltF, iv_leT, iv_leF, iv_eqT, iv_eqF, iv_div, iv_mod, ↓bnI_s, ↓bnV_s, ↓bnJ_s, ↓bnR_s, rt_e, rt_0, rt_bz, sv_s, sv_o, ur_s, ur_e, ur_o, bz_T, bz_F, nat_eqF, Nat.reduceAdd, u12], ?_, ?_, by simp (disch := first | decide | omega | (simp (disch := first | decide | omega) only [sv_s, sv_o, ur_s, ur_e, ur_o]; omega)) only [↓reduceIte, iv_add, iv_sub, iv_mul, iv_neg, iv_ltT, iv_ltF, iv_leT, iv_leF, iv_eqT, iv_eqF, iv_div, iv_mod, ↓bnI_s, ↓bnV_s, ↓bnJ_s, ↓bnR_s, rt_e, rt_0, rt_bz, sv_s, sv_o, ur_s, ur_e, ur_o, bz_T, bz_F, nat_eqF, Nat.reduceAdd], fun q hq => by simp (disch := first | decide | omega | (simp (disch := first | decide | omega) only [sv_s, sv_o, ur_s, ur_e, ur_o]; omega)) only [↓reduceIte, iv_add, iv_sub, iv_mul, iv_neg, iv_ltT, iv_ltF, iv_leT, iv_leF, iv_eqT, iv_eqF, iv_div, iv_mod, ↓bnI_s, ↓bnV_s, ↓bnJ_s, ↓bnR_s, rt_e, rt_0, rt_bz, sv_s, sv_o, ur_s, ur_e, ur_o, bz_T, bz_F, nat_eqF, Nat.reduceAdd, u438], fW.tr (frW.w8 (by omega))⟩
  · simp (disch := first | decide | omega | (simp (disch := first | decide | omega) only [sv_s, sv_o, ur_s, ur_e, ur_o]; omega)) only [↓reduceIte, iv_add, iv_sub, iv_mul, iv_neg, iv_ltT, iv_ltF, iv_leT, iv_leF, iv_eqT, iv_eqF, iv_div, iv_mod, ↓bnI_s, ↓bnV_s, ↓bnJ_s, ↓bnR_s, rt_e, rt_0, rt_bz, sv_s, sv_o, ur_s, ur_e, ur_o, bz_T, bz_F, nat_eqF, Nat.reduceAdd]
    rw [n2.2 14 (by decide) (by decide) (by decide) (by decide), hW]; simp (disch := first | decide | omega | (simp (disch := first | decide | omega) only [sv_s, sv_o, ur_s, ur_e, ur_o]; omega)) only [↓reduceIte, iv_add, iv_sub, iv_mul, iv_neg, iv_ltT, iv_ltF, iv_leT, iv_leF, iv_eqT, iv_eqF, iv_div, iv_mod, ↓bnI_s, ↓bnV_s, ↓bnJ_s, ↓bnR_s, rt_e, rt_0, rt_bz, sv_s, sv_o, ur_s, ur_e, ur_o, bz_T, bz_F, nat_eqF, Nat.reduceAdd]
  · simp (disch := first | decide | omega | (simp (disch := first | decide | omega) only [sv_s, sv_o, ur_s, ur_e, ur_o]; omega)) only [↓reduceIte, iv_add, iv_sub, iv_mul, iv_neg, iv_ltT, iv_ltF, iv_leT, iv_leF, iv_eqT, iv_eqF, iv_div, iv_mod, ↓bnI_s, ↓bnV_s, ↓bnJ_s, ↓bnR_s, rt_e, rt_0, rt_bz, sv_s, sv_o, ur_s, ur_e, ur_o, bz_T, bz_F, nat_eqF, Nat.reduceAdd]
    rw [n2.2 19 (by decide) (by decide) (by decide) (by decide), hW, ← hon]; simp (disch := first | decide | omega | (simp (disch := first | decide | omega) only [sv_s, sv_o, ur_s, ur_e, ur_o]; omega)) only [↓reduceIte, iv_add, iv_sub, iv_mul, iv_neg, iv_ltT, iv_ltF, iv_leT, iv_leF, iv_eqT, iv_eqF, iv_div, iv_mod, ↓bnI_s, ↓bnV_s, ↓bnJ_s, ↓bnR_s, rt_e, rt_0, rt_bz, sv_s, sv_o, ur_s, ur_e, ur_o, bz_T, bz_F, nat_eqF, Nat.reduceAdd]
  · simp (disch := first | decide | omega | (simp (disch := first | decide | omega) only [sv_s, sv_o, ur_s, ur_e, ur_o]; omega)) only [↓reduceIte, iv_add, iv_sub, iv_mul, iv_neg, iv_ltT, iv_ltF, iv_leT, iv_leF, iv_eqT, iv_eqF, iv_div, iv_mod, ↓bnI_s, ↓bnV_s, ↓bnJ_s, ↓bnR_s, rt_e, rt_0, rt_bz, sv_s, sv_o, ur_s, ur_e, ur_o, bz_T, bz_F, nat_eqF, Nat.reduceAdd]
    rw [n2.2 13 (by decide) (by decide) (by decide) (by decide), hW]; simp (disch := first | decide | omega | (simp (disch := first | decide | omega) only [sv_s, sv_o, ur_s, ur_e, ur_o]; omega)) only [↓reduceIte, iv_add, iv_sub, iv_mul, iv_neg, iv_ltT, iv_ltF, iv_leT, iv_leF, iv_eqT, iv_eqF, iv_div, iv_mod, ↓bnI_s, ↓bnV_s, ↓bnJ_s, ↓bnR_s, rt_e, rt_0, rt_bz, sv_s, sv_o, ur_s, ur_e, ur_o, bz_T, bz_F, nat_eqF, Nat.reduceAdd, p4]
  · simp (disch := first | decide | omega | (simp (disch := first | decide | omega) only [sv_s, sv_o, ur_s, ur_e, ur_o]; omega)) only [↓reduceIte, iv_add, iv_sub, iv_mul, iv_neg, iv_ltT, iv_ltF, iv_leT, iv_leF, iv_eqT, iv_eqF, iv_div, iv_mod, ↓bnI_s, ↓bnV_s, ↓bnJ_s, ↓bnR_s, rt_e, rt_0, rt_bz, sv_s, sv_o, ur_s, ur_e, ur_o, bz_T, bz_F, nat_eqF, Nat.reduceAdd, u438, p3]
theorem c_fin (F : Fix z) (S : SO s) (T : Mt U2 K2 s j) (hj : 0 ≤ j ∧ j ≤ sM s) (h12 : U2 435 12 = sX s) (hn : U2 438 (sX s) = n) (nr : 0 ≤ n ∧ n < 24) (hb : cA m_M_body [.ref 435, .int (iv σ), .int (iv x)] (em U1 K1 z) = some (.int (iv 0), em U2 K2 z)) : (sK s j ≠ 35 → cB σ x (em U1 K1 z) = some (.int (iv 1), em (sv U2 438 (sX s) (n + 1)) K2 z)) ∧ (sK s j = 35 → ∃ U3 K3, cB σ x (em U1 K1 z) = some (.int (iv 0), em U3 K3 z) ∧ Mt U3 K3 s (j + 1) ∧ (∀ a, a ≠ 435 → a ≠ 438 → U3 a = U2 a) ∧ (∀ q, ¬ (7 ≤ q ∧ q ≤ 10) → U3 435 q = U2 435 q) ∧ U3 438 (sX s) = n + 1 ∧ ∀ q, q ≠ sX s → U3 438 q = U2 438 q) := by
  have S2 := S.2.1
  have tt := T.2.tt
  have T1 : Mt (sv U2 438 (sX s) (n + 1)) K2 s j := T.c (by simp (disch := first | decide | omega | (simp (disch := first | decide | omega) only [sv_s, sv_o, ur_s, ur_e, ur_o]; omega)) only [↓reduceIte, iv_add, iv_sub, iv_mul, iv_neg, iv_ltT, iv_ltF, iv_leT, iv_leF, iv_eqT, iv_eqF, iv_div, iv_mod, ↓bnI_s, ↓bnV_s, ↓bnJ_s, ↓bnR_s, rt_e, rt_0, rt_bz, sv_s, sv_o, ur_s, ur_e, ur_o, bz_T, bz_F, nat_eqF, Nat.reduceAdd]) (fun q hq => by simp (disch := first | decide | omega | (simp (disch := first | decide | omega) only [sv_s, sv_o, ur_s, ur_e, ur_o]; omega)) only [↓reduceIte, iv_add, iv_sub, iv_mul, iv_neg, iv_ltT, iv_ltF, iv_leT, iv_leF, iv_eqT, iv_eqF, iv_div, iv_mod, ↓bnI_s, ↓bnV_s, ↓bnJ_s, ↓bnR_s, rt_e, rt_0, rt_bz, sv_s, sv_o, ur_s, ur_e, ur_o, bz_T, bz_F, nat_eqF, Nat.reduceAdd])
  have t9 : sv U2 438 (sX s) (n + 1) 435 9 = U2 435 9 := by simp (disch := first | decide | omega | (simp (disch := first | decide | omega) only [sv_s, sv_o, ur_s, ur_e, ur_o]; omega)) only [↓reduceIte, iv_add, iv_sub, iv_mul, iv_neg, iv_ltT, iv_ltF, iv_leT, iv_leF, iv_eqT, iv_eqF, iv_div, iv_mod, ↓bnI_s, ↓bnV_s, ↓bnJ_s, ↓bnR_s, rt_e, rt_0, rt_bz, sv_s, sv_o, ur_s, ur_e, ur_o, bz_T, bz_F, nat_eqF, Nat.reduceAdd]
  have go : cB σ x (em U1 K1 z) = (if iv (U2 435 9) = 59 then bnV (cA m_M_nextToken [.ref 435] (em (sv U2 438 (sX s) (n + 1)) K2 z)) fun h13 => some (.int 0, h13) else some (.int 1, em (sv U2 438 (sX s) (n + 1)) K2 z)) := by
    unfold cB
    rw [hb, bnI_s, if_pos (show iv 0 = 0 from rfl), gR_435_2 F, gI_435_12 F, h12, lI_438 F (by omega), hn, il_1, iv_add n 1, sI_438 F (by omega), gI_435_9 F, t9]
  constructor
  · intro n35
    have t59 : U2 435 9 < 59 ∨ 59 < U2 435 9 := by unfold Tt sgT at tt; omega
    have tr := tt.rg.2
    have n59 : ¬ iv (U2 435 9) = (59 : Int32) := of_eq_false (iv_eqF (a := U2 435 9) (b := 59) (by omega))
    rw [go, if_neg n59]
    rfl
  · intro k35
    have t59 : U2 435 9 = 59 := by unfold Tt sgT at tt; omega
    have jm := S.lt (i := j) hj.1 hj.2 (by omega)
    obtain ⟨U3, K3, n1, n2, n3⟩ := T1.nextT F S ⟨hj.1, jm⟩
    refine ⟨U3, K3, ?_, n3, fun a h1 h2 => by rw [n2.1 a h1]; simp (disch := first | decide | omega | (simp (disch := first | decide | omega) only [sv_s, sv_o, ur_s, ur_e, ur_o]; omega)) only [↓reduceIte, iv_add, iv_sub, iv_mul, iv_neg, iv_ltT, iv_ltF, iv_leT, iv_leF, iv_eqT, iv_eqF, iv_div, iv_mod, ↓bnI_s, ↓bnV_s, ↓bnJ_s, ↓bnR_s, rt_e, rt_0, rt_bz, sv_s, sv_o, ur_s, ur_e, ur_o, bz_T, bz_F, nat_eqF, Nat.reduceAdd], fun q hq => by rw [n2.2 q (by omega) (by omega) (by omega) (by omega)]; simp (disch := first | decide | omega | (simp (disch := first | decide | omega) only [sv_s, sv_o, ur_s, ur_e, ur_o]; omega)) only [↓reduceIte, iv_add, iv_sub, iv_mul, iv_neg, iv_ltT, iv_ltF, iv_leT, iv_leF, iv_eqT, iv_eqF, iv_div, iv_mod, ↓bnI_s, ↓bnV_s, ↓bnJ_s, ↓bnR_s, rt_e, rt_0, rt_bz, sv_s, sv_o, ur_s, ur_e, ur_o, bz_T, bz_F, nat_eqF, Nat.reduceAdd], by rw [n2.1 438 (by decide)]; simp (disch := first | decide | omega | (simp (disch := first | decide | omega) only [sv_s, sv_o, ur_s, ur_e, ur_o]; omega)) only [↓reduceIte, iv_add, iv_sub, iv_mul, iv_neg, iv_ltT, iv_ltF, iv_leT, iv_leF, iv_eqT, iv_eqF, iv_div, iv_mod, ↓bnI_s, ↓bnV_s, ↓bnJ_s, ↓bnR_s, rt_e, rt_0, rt_bz, sv_s, sv_o, ur_s, ur_e, ur_o, bz_T, bz_F, nat_eqF, Nat.reduceAdd], fun q hq => by rw [n2.1 438 (by decide)]; simp (disch := first | decide | omega | (simp (disch := first | decide | omega) only [sv_s, sv_o, ur_s, ur_e, ur_o]; omega)) only [↓reduceIte, iv_add, iv_sub, iv_mul, iv_neg, iv_ltT, iv_ltF, iv_leT, iv_leF, iv_eqT, iv_eqF, iv_div, iv_mod, ↓bnI_s, ↓bnV_s, ↓bnJ_s, ↓bnR_s, rt_e, rt_0, rt_bz, sv_s, sv_o, ur_s, ur_e, ur_o, bz_T, bz_F, nat_eqF, Nat.reduceAdd]⟩
    rw [go, t59, if_pos (show iv 59 = 59 from rfl), n1, bnV_s]
    rfl
theorem c_bad (hb : cA m_M_body [.ref 435, .int (iv σ), .int (iv x)] (em U1 K1 z) = some (.int (iv f), em U2 K2 z)) (hf : 1 ≤ f ∧ f ≤ 6) : cB σ x (em U1 K1 z) = some (.int (iv f), em U2 K2 z) := by
  have n0 : ¬ iv f = (0 : Int32) := of_eq_false (iv_eqF (a := f) (b := 0) (by omega))
  unfold cB
  rw [hb, bnI_s, if_neg n0]
end
