/-! THE READING: sums, the model against what the class has read -/
def Pl (U : Vm) (p k0 : Int) : Prop := 0 ≤ p ∧ OAp U p k0 ∧ ∀ j, 0 ≤ j → j < p → (0 ≤ U 440 j ∧ U 440 j ≤ 22) ∨ (40 ≤ U 440 j ∧ U 440 j ≤ 43)
def Md (U K : Vm) (s : Sm) (i p d w k0 : Int) : Prop := Ps U K s i p d w ∧ U 435 18 = 0 ∧ Pl U p k0
/-- what waits at U' goes into the code when it is settled down to l: U'' -/
def Pn (z : Zz) (l : Int) (U' U'' K' : Vm) : Prop := ∀ q, 1 ≤ q → q ≤ l → cA m_M_settle [.ref 435, .int (iv q)] (em U' K' z) = cA m_M_settle [.ref 435, .int (iv q)] (em U'' K' z)
/-- the top of the pile binds less than l -/
def Tp (U : Vm) (p l : Int) : Prop := p = 0 ∨ rk (U 440 (p - 1)) < l
/-- a ONE that was read up to token j: the model does so, and settles what binds most -/
def MoO (z : Zz) (s : Sm) (i j d g : Int) (M : (Int → Int) → Int → Int) : Prop := ∀ U K p w k0, Md U K s i p d w k0 → p ≤ 6 * d + 5 → (0 ≤ w ∧ w ≤ i) → (sK s i = 24 → ¬ AH U p k0) → ∃ U' K', Lp (em U K z) = S7 U' K' z ∧ Ps U' K' s j p d (w + g) ∧ U' 435 18 = 1 ∧ frQ s p w U U' ∧ ME (fun q => U' 438 (sX s + 73 + q)) w (w + g) M
def MnO (z : Zz) (s : Sm) (i j f d : Int) : Prop := ∀ U K p w k0, Md U K s i p d w k0 → p ≤ 6 * d + 5 → (0 ≤ w ∧ w ≤ i) → (sK s i = 24 → ¬ AH U p k0) → ∃ U' K', Lp (em U K z) = some (.int (iv f), em U' K' z) ∧ U' 435 8 = sP s j ∧ frQ s p w U U'
/-- a product (l = 6), a sum (l = 5), a ONE alone (l = 7) -/
def MoA (z : Zz) (s : Sm) (l i j d g : Int) (M : (Int → Int) → Int → Int) : Prop := ∀ U K p w k0, Md U K s i p d w k0 → p ≤ 6 * d + (l - 2) → (0 ≤ w ∧ w ≤ i) → (sK s i = 24 → ¬ AH U p k0) → Tp U p l → ∃ U' U'' K' p', Lp (em U K z) = Lp (em U' K' z) ∧ U' 435 18 = 1 ∧ Mt U' K' s j ∧ U' 435 16 = p' ∧ (p ≤ p' ∧ p' ≤ p + (7 - l)) ∧ (∀ k, p ≤ k → k < p' → 6 ≤ U' 440 k ∧ U' 440 k ≤ 9) ∧ frQ s p w U U' ∧ Ps U'' K' s j p d (w + g) ∧ U'' 435 18 = 1 ∧ frQ s p w U U'' ∧ ME (fun q => U'' 438 (sX s + 73 + q)) w (w + g) M ∧ Pn z l U' U'' K'
def MnA (z : Zz) (s : Sm) (l i j f d : Int) : Prop := ∀ U K p w k0, Md U K s i p d w k0 → p ≤ 6 * d + (l - 2) → (0 ≤ w ∧ w ≤ i) → (sK s i = 24 → ¬ AH U p k0) → Tp U p l → ∃ U' K', Lp (em U K z) = some (.int (iv f), em U' K' z) ∧ U' 435 8 = sP s j ∧ frQ s p w U U'
section
variable {U U' K : Vm} {z : Zz} {s : Sm} {l i j j2 d g g1 g2 p w k0 f o : Int} {M M1 M2 : (Int → Int) → Int → Int}
theorem OAp.mv (O : OAp U p k0) {p' : Int} (hp : p ≤ p') (e : ∀ j, 0 ≤ j → j < p → U' 440 j = U 440 j) (q : ∀ j, p ≤ j → j < p' → 0 ≤ U' 440 j ∧ U' 440 j < 40) (p0 : 0 ≤ p) : OAp U' p' k0 ∧ opn U' k0 = opn U k0 := by
  obtain ⟨o1, o2, o3⟩ := O
  have ek : k0 ≠ -1 → U' 440 k0 = U 440 k0 := fun h => e k0 (by omega) (by omega)
  constructor
  · refine ⟨by omega, fun j j0 j1 => ?_, ?_⟩
    · by_cases w : j < p
      · rw [e j (by omega) w]; exact o2 j j0 w
      · exact q j (by omega) j1
    · rcases o3 with h | h
      · exact Or.inl h
      · rw [ek (by omega)]; exact Or.inr h
  · unfold opn
    by_cases h : k0 = -1
    · rw [if_pos h, if_pos h]
    · rw [if_neg h, if_neg h, ek h]
theorem Pl.push (P : Pl U p k0) (f : ∀ k, k < p → U' 440 k = U 440 k) (h : U' 440 p = o) (ho : 0 ≤ o ∧ o ≤ 22) : Pl U' (p + 1) k0 ∧ opn U' k0 = opn U k0 := by
  obtain ⟨p0, O, v⟩ := P
  have m := O.mv (U' := U') (p' := p + 1) (by omega) (fun j _ j1 => f j j1) (fun j j0 j1 => by rw [show j = p by omega, h]; omega) p0
  refine ⟨⟨by omega, m.1, fun j j0 j1 => ?_⟩, m.2⟩
  by_cases w : j < p
  · rw [f j w]; exact v j j0 w
  · rw [show j = p by omega, h]; exact Or.inl ho
theorem Pl.open_ (P : Pl U p k0) (f : ∀ k, k < p → U' 440 k = U 440 k) (h : U' 440 p = o) (ho : 40 ≤ o ∧ o ≤ 43) : Pl U' (p + 1) p ∧ opn U' p = o := by
  obtain ⟨p0, O, v⟩ := P
  refine ⟨⟨by omega, ⟨by omega, fun j j0 j1 => absurd j1 (by omega), Or.inr (by rw [h]; omega)⟩, fun j j0 j1 => ?_⟩, by unfold opn; rw [if_neg (by omega), h]⟩
  by_cases w : j < p
  · rw [f j w]; exact v j j0 w
  · rw [show j = p by omega, h]; exact Or.inr ho
theorem Ps.rm (S : SO s) (P : Ps U K s i p d w) (hw : 0 ≤ w ∧ w ≤ 303) : Rm U := by
  obtain ⟨p1, p2, p3, p4, p5, p6⟩ := P
  exact ⟨by rw [p5]; exact S.2.1, by rw [p4]; exact hw⟩
theorem Tp.mv (T : Tp U p l) (f : ∀ k, k < p → U' 440 k = U 440 k) : Tp U' p l := by
  unfold Tp at *
  rw [f (p - 1) (by omega)]
  exact T
/-- nothing is settled above p -/
theorem stop_ (F : Fix z) (P : Ps U K s i p d w) (p0 : 0 ≤ p ∧ p ≤ 160) (v : ∀ j, 0 ≤ j → j < p → (0 ≤ U 440 j ∧ U 440 j ≤ 22) ∨ (40 ≤ U 440 j ∧ U 440 j ≤ 43)) (T : Tp U p l) (hl : -1 ≤ l ∧ l ≤ 9) : cA m_M_settle [.ref 435, .int (iv l)] (em U K z) = some (.null, em U K z) := by
  have p2 := P.2.1
  refine y_stop F hl ?_
  rw [p2]
  rcases T with h | h
  · exact Or.inl h
  · by_cases q : p = 0
    · exact Or.inl q
    · have := v (p - 1) (by omega) (by omega)
      exact Or.inr ⟨by omega, by omega, h⟩
/-- what lies on top goes into the code -/
theorem pop_ (F : Fix z) (S : SO s) (P : Ps U K s i (p + 1) d w) (p0 : 0 ≤ p ∧ p < 160) (hw : 0 ≤ w ∧ w ≤ 303) (hd : 0 ≤ d ∧ d ≤ 10) (h : U 440 p = o) (ho : 0 ≤ o ∧ o ≤ 22) (h18 : U 435 18 = 1) : (∀ q, 1 ≤ q → q ≤ rk o → cA m_M_settle [.ref 435, .int (iv q)] (em U K z) = cA m_M_settle [.ref 435, .int (iv q)] (em (popM U) K z)) ∧ Ps (popM U) K s i p (if rk o = 7 ∨ o = 20 then d - 1 else d) (w + 1) ∧ popM U 435 18 = 1 ∧ frQ s p w U (popM U) ∧ popM U 438 (sX s + 73 + 2 * w) = o := by
  have R := P.rm S hw
  obtain ⟨p1, p2, p3, p4, p5, p6⟩ := P
  have e16 : U 435 16 - 1 = p := by omega
  obtain ⟨W, hW⟩ : ∃ W, W = sv U 435 16 p := ⟨_, rfl⟩
  have w12 : W 435 12 = sX s := by rw [hW]; simp (disch := first | decide | omega | (simp (disch := first | decide | omega) only [sv_s, sv_o, ur_s, ur_e, ur_o]; omega)) only [↓reduceIte, iv_add, iv_sub, iv_mul, iv_neg, iv_ltT, iv_ltF, iv_leT, iv_leF, iv_eqT, iv_eqF, iv_div, iv_mod, ↓bnI_s, ↓bnV_s, ↓bnJ_s, ↓bnR_s, rt_e, rt_0, rt_bz, sv_s, sv_o, ur_s, ur_e, ur_o, bz_T, bz_F, nat_eqF, Nat.reduceAdd, p5]
  have w13 : W 435 13 = w := by rw [hW]; simp (disch := first | decide | omega | (simp (disch := first | decide | omega) only [sv_s, sv_o, ur_s, ur_e, ur_o]; omega)) only [↓reduceIte, iv_add, iv_sub, iv_mul, iv_neg, iv_ltT, iv_ltF, iv_leT, iv_leF, iv_eqT, iv_eqF, iv_div, iv_mod, ↓bnI_s, ↓bnV_s, ↓bnJ_s, ↓bnR_s, rt_e, rt_0, rt_bz, sv_s, sv_o, ur_s, ur_e, ur_o, bz_T, bz_F, nat_eqF, Nat.reduceAdd, p4]
  have c := (emM_c (U := W) (o := o) (x := 0)).1
  rw [w12, w13] at c
  have f1 : frQ s p w U (emM W o 0) := by
    have f0 : frQ s p w U W := by rw [hW]; exact frQ.w5 (by omega)
    exact f0.tr (frQ.em w12 w13 hw) (Int.le_refl _) (Int.le_refl _)
  have k5 : ∀ k, k ≠ 13 → k ≠ 16 → emM W o 0 435 k = U 435 k := fun k h1 h2 => by rw [emM_5 h1, hW]; simp (disch := first | decide | omega | (simp (disch := first | decide | omega) only [sv_s, sv_o, ur_s, ur_e, ur_o]; omega)) only [↓reduceIte, iv_add, iv_sub, iv_mul, iv_neg, iv_ltT, iv_ltF, iv_leT, iv_leF, iv_eqT, iv_eqF, iv_div, iv_mod, ↓bnI_s, ↓bnV_s, ↓bnJ_s, ↓bnR_s, rt_e, rt_0, rt_bz, sv_s, sv_o, ur_s, ur_e, ur_o, bz_T, bz_F, nat_eqF, Nat.reduceAdd]
  have k16 : emM W o 0 435 16 = p := by rw [emM_5 (by decide), hW]; simp (disch := first | decide | omega | (simp (disch := first | decide | omega) only [sv_s, sv_o, ur_s, ur_e, ur_o]; omega)) only [↓reduceIte, iv_add, iv_sub, iv_mul, iv_neg, iv_ltT, iv_ltF, iv_leT, iv_leF, iv_eqT, iv_eqF, iv_div, iv_mod, ↓bnI_s, ↓bnV_s, ↓bnJ_s, ↓bnR_s, rt_e, rt_0, rt_bz, sv_s, sv_o, ur_s, ur_e, ur_o, bz_T, bz_F, nat_eqF, Nat.reduceAdd]
  have k13 : emM W o 0 435 13 = w + 1 := by rw [emM_13, w13]
  have k39 : emM W o 0 439 = U 439 := by rw [emM_o (by decide) (by decide), hW]; simp (disch := first | decide | omega | (simp (disch := first | decide | omega) only [sv_s, sv_o, ur_s, ur_e, ur_o]; omega)) only [↓reduceIte, iv_add, iv_sub, iv_mul, iv_neg, iv_ltT, iv_ltF, iv_leT, iv_leF, iv_eqT, iv_eqF, iv_div, iv_mod, ↓bnI_s, ↓bnV_s, ↓bnJ_s, ↓bnR_s, rt_e, rt_0, rt_bz, sv_s, sv_o, ur_s, ur_e, ur_o, bz_T, bz_F, nat_eqF, Nat.reduceAdd]
  have ep : popM U = if rk o = 7 ∨ o = 20 then sv (emM W o 0) 435 17 (d - 1) else emM W o 0 := by
    unfold popM
    rw [e16, h, p3, hW]
  refine ⟨fun q q1 q2 => y_pop F R (by omega) (by rw [e16, h]; omega) (by rw [e16, h]; omega) (by omega), ?_⟩
  rw [ep]
  by_cases b : rk o = 7 ∨ o = 20
  · rw [if_pos b, if_pos b]
    exact ⟨⟨p1.c (by simp (disch := first | decide | omega | (simp (disch := first | decide | omega) only [sv_s, sv_o, ur_s, ur_e, ur_o]; omega)) only [↓reduceIte, iv_add, iv_sub, iv_mul, iv_neg, iv_ltT, iv_ltF, iv_leT, iv_leF, iv_eqT, iv_eqF, iv_div, iv_mod, ↓bnI_s, ↓bnV_s, ↓bnJ_s, ↓bnR_s, rt_e, rt_0, rt_bz, sv_s, sv_o, ur_s, ur_e, ur_o, bz_T, bz_F, nat_eqF, Nat.reduceAdd, k39]) (fun k hk => by simp (disch := first | decide | omega | (simp (disch := first | decide | omega) only [sv_s, sv_o, ur_s, ur_e, ur_o]; omega)) only [↓reduceIte, iv_add, iv_sub, iv_mul, iv_neg, iv_ltT, iv_ltF, iv_leT, iv_leF, iv_eqT, iv_eqF, iv_div, iv_mod, ↓bnI_s, ↓bnV_s, ↓bnJ_s, ↓bnR_s, rt_e, rt_0, rt_bz, sv_s, sv_o, ur_s, ur_e, ur_o, bz_T, bz_F, nat_eqF, Nat.reduceAdd, k5 k]), by simp (disch := first | decide | omega | (simp (disch := first | decide | omega) only [sv_s, sv_o, ur_s, ur_e, ur_o]; omega)) only [↓reduceIte, iv_add, iv_sub, iv_mul, iv_neg, iv_ltT, iv_ltF, iv_leT, iv_leF, iv_eqT, iv_eqF, iv_div, iv_mod, ↓bnI_s, ↓bnV_s, ↓bnJ_s, ↓bnR_s, rt_e, rt_0, rt_bz, sv_s, sv_o, ur_s, ur_e, ur_o, bz_T, bz_F, nat_eqF, Nat.reduceAdd, k16], by simp (disch := first | decide | omega | (simp (disch := first | decide | omega) only [sv_s, sv_o, ur_s, ur_e, ur_o]; omega)) only [↓reduceIte, iv_add, iv_sub, iv_mul, iv_neg, iv_ltT, iv_ltF, iv_leT, iv_leF, iv_eqT, iv_eqF, iv_div, iv_mod, ↓bnI_s, ↓bnV_s, ↓bnJ_s, ↓bnR_s, rt_e, rt_0, rt_bz, sv_s, sv_o, ur_s, ur_e, ur_o, bz_T, bz_F, nat_eqF, Nat.reduceAdd], by simp (disch := first | decide | omega | (simp (disch := first | decide | omega) only [sv_s, sv_o, ur_s, ur_e, ur_o]; omega)) only [↓reduceIte, iv_add, iv_sub, iv_mul, iv_neg, iv_ltT, iv_ltF, iv_leT, iv_leF, iv_eqT, iv_eqF, iv_div, iv_mod, ↓bnI_s, ↓bnV_s, ↓bnJ_s, ↓bnR_s, rt_e, rt_0, rt_bz, sv_s, sv_o, ur_s, ur_e, ur_o, bz_T, bz_F, nat_eqF, Nat.reduceAdd, k13], by simp (disch := first | decide | omega | (simp (disch := first | decide | omega) only [sv_s, sv_o, ur_s, ur_e, ur_o]; omega)) only [↓reduceIte, iv_add, iv_sub, iv_mul, iv_neg, iv_ltT, iv_ltF, iv_leT, iv_leF, iv_eqT, iv_eqF, iv_div, iv_mod, ↓bnI_s, ↓bnV_s, ↓bnJ_s, ↓bnR_s, rt_e, rt_0, rt_bz, sv_s, sv_o, ur_s, ur_e, ur_o, bz_T, bz_F, nat_eqF, Nat.reduceAdd, k5 12]; exact p5, by simp (disch := first | decide | omega | (simp (disch := first | decide | omega) only [sv_s, sv_o, ur_s, ur_e, ur_o]; omega)) only [↓reduceIte, iv_add, iv_sub, iv_mul, iv_neg, iv_ltT, iv_ltF, iv_leT, iv_leF, iv_eqT, iv_eqF, iv_div, iv_mod, ↓bnI_s, ↓bnV_s, ↓bnJ_s, ↓bnR_s, rt_e, rt_0, rt_bz, sv_s, sv_o, ur_s, ur_e, ur_o, bz_T, bz_F, nat_eqF, Nat.reduceAdd, k5 14]; exact p6⟩, by simp (disch := first | decide | omega | (simp (disch := first | decide | omega) only [sv_s, sv_o, ur_s, ur_e, ur_o]; omega)) only [↓reduceIte, iv_add, iv_sub, iv_mul, iv_neg, iv_ltT, iv_ltF, iv_leT, iv_leF, iv_eqT, iv_eqF, iv_div, iv_mod, ↓bnI_s, ↓bnV_s, ↓bnJ_s, ↓bnR_s, rt_e, rt_0, rt_bz, sv_s, sv_o, ur_s, ur_e, ur_o, bz_T, bz_F, nat_eqF, Nat.reduceAdd, k5 18]; exact h18, f1.tr (frQ.w5 (by omega)) (Int.le_refl _) (Int.le_refl _), by simp (disch := first | decide | omega | (simp (disch := first | decide | omega) only [sv_s, sv_o, ur_s, ur_e, ur_o]; omega)) only [↓reduceIte, iv_add, iv_sub, iv_mul, iv_neg, iv_ltT, iv_ltF, iv_leT, iv_leF, iv_eqT, iv_eqF, iv_div, iv_mod, ↓bnI_s, ↓bnV_s, ↓bnJ_s, ↓bnR_s, rt_e, rt_0, rt_bz, sv_s, sv_o, ur_s, ur_e, ur_o, bz_T, bz_F, nat_eqF, Nat.reduceAdd, c]⟩
  · rw [if_neg b, if_neg b]
    exact ⟨⟨p1.c k39 (fun k hk => k5 k (by omega) (by omega)), k16, (k5 17 (by decide) (by decide)).trans p3, k13, (k5 12 (by decide) (by decide)).trans p5, (k5 14 (by decide) (by decide)).trans p6⟩, (k5 18 (by decide) (by decide)).trans h18, f1, c⟩
/-- a ONE alone, behind what binds less -/
theorem MoO.one (F : Fix z) (h : MoO z s i j d g M) (hd : 0 ≤ d ∧ d ≤ 8) : MoA z s 7 i j d g M := by
  intro U K p w k0 m hp hw ha T
  obtain ⟨U', K', e1, e2, e3, e4, e5⟩ := h U K p w k0 m (by omega) hw ha
  have v := m.2.2.2.2
  have p0 := m.2.2.1
  have st := stop_ (l := 7) F e2 (by omega) (fun j j0 j1 => by rw [e4.2.2.1 j j1]; exact v j j0 j1) (T.mv e4.2.2.1) (by omega)
  refine ⟨U', U', K', p, ?_, e3, e2.1, e2.2.1, by omega, fun k k0 k1 => absurd k1 (by omega), e4, e2, e3, e4, e5, fun q _ _ => rfl⟩
  rw [e1]
  unfold S7
  rw [st, bnV_s]
theorem MnO.one (h : MnO z s i j f d) : MnA z s 7 i j f d := fun U K p w k0 m hp hw ha _ => h U K p w k0 m (by omega) hw ha
theorem MoA.up (h : MoA z s (l + 1) i j d g M) : MoA z s l i j d g M := by
  intro U K p w k0 m hp hw ha T
  obtain ⟨U', U'', K', p', a1, a2, a3, a4, a5, a6, a7, a8, a9, a10, a11, a12⟩ := h U K p w k0 m (by omega) hw ha (by unfold Tp at *; omega)
  exact ⟨U', U'', K', p', a1, a2, a3, a4, by omega, a6, a7, a8, a9, a10, a11, fun q q1 q2 => a12 q q1 (by omega)⟩
theorem MnA.up (h : MnA z s (l + 1) i j f d) : MnA z s l i j f d := by
  intro U K p w k0 m hp hw ha T
  exact h U K p w k0 m (by omega) hw ha (by unfold Tp at *; omega)
/-- up to what comes between two -/
theorem MoA.go (F : Fix z) (S : SO s) (h1 : MoA z s l i j d g1 M1) (hl : l = 5 ∨ l = 6) (hd : 0 ≤ d ∧ d ≤ 8) (hi : 0 ≤ i ∧ i ≤ j ∧ j < sM s) (hg : 0 ≤ g1 ∧ g1 ≤ j - i) (hk : (29 ≤ sK s j ∧ sK s j ≤ 32) ∧ rk (sK s j - 23) = l) (m : Md U K s i p d w k0) (hp : p ≤ 6 * d + (l - 2)) (hw : 0 ≤ w ∧ w ≤ i) (ha : sK s i = 24 → ¬ AH U p k0) (T : Tp U p l) : ∃ U3 K3, Lp (em U K z) = Lp (em U3 K3 z) ∧ Md U3 K3 s (j + 1) (p + 1) d (w + g1) k0 ∧ U3 440 p = sK s j - 23 ∧ frQ s p w U U3 ∧ ME (fun q => U3 438 (sX s + 73 + q)) w (w + g1) M1 := by
  have v := m.2.2.2.2
  have p0 := m.2.2.1
  obtain ⟨U', U'', K', p', a1, a2, a3, a4, a5, a6, a7, a8, a9, a10, a11, a12⟩ := h1 U K p w k0 m hp hw ha T
  have bt := y_between_ar (z := z) F a3.2 hk.1
  have st := stop_ (l := l) F a8 (by omega) (fun j j0 j1 => by rw [a10.2.2.1 j j1]; exact v j j0 j1) (T.mv a10.2.2.1) (by omega)
  have se := (a12 l (by omega) (Int.le_refl _)).trans st
  have S1 := S.1
  obtain ⟨U3, K3, b1, b2, b3, b4, b5⟩ := l_op (l := l) F S a2 bt (by omega) (by rw [hk.2, if_neg (by omega)]) se a8 (by omega) (by omega)
  have f3 := a10.tr b4 (Int.le_refl _) (by omega)
  have pl := m.2.2.push (U' := U3) f3.2.2.1 b5 (by omega)
  refine ⟨U3, K3, a1.trans b1, ⟨b2, b3, pl.1⟩, b5, f3, a11.ext (fun q q0 q1 => ?_)⟩
  exact b4.2.2.2 _ (Or.inl (by omega))
theorem MoA.step (F : Fix z) (S : SO s) (h1 : MoA z s l i j d g1 M1) (h2 : MoA z s (l + 1) (j + 1) j2 d g2 M2) (hl : l = 5 ∨ l = 6) (hd : 0 ≤ d ∧ d ≤ 8) (hi : 0 ≤ i ∧ i ≤ j ∧ j < sM s ∧ j2 ≤ sM s) (hg : 0 < g1 ∧ g1 ≤ j - i) (hg2 : 0 < g2 ∧ g2 ≤ j2 - (j + 1)) (hk : (29 ≤ sK s j ∧ sK s j ≤ 32) ∧ rk (sK s j - 23) = l) (B1 : MB M1) (B2 : MB M2) : MoA z s l i j2 d (g1 + g2 + 1) (fun A k => twV (sK s j) (M1 A k) (M2 A k)) := by
  intro U K p w k0 m hp hw ha T
  have S1 := S.1
  have p0 := m.2.2.1
  obtain ⟨U3, K3, b1, b2, b3, b4, b5⟩ := h1.go F S hl hd (by omega) (by omega) hk m hp hw ha T
  have rko : rk (U3 440 p) = l := by rw [b3]; exact hk.2
  obtain ⟨U4, W4, K4, p4, c1, c2, c3, c4, c5, c6, c7, c8, c9, c10, c11, c12⟩ := h2 U3 K3 (p + 1) (w + g1) k0 b2 (by omega) (by omega) (fun _ x => by
    have x2 := x.2
    rw [show p + 1 - 1 = p by omega, b3] at x2
    omega) (Or.inr (by rw [show p + 1 - 1 = p by omega, rko]; omega))
  have t4 : W4 440 p = sK s j - 23 := (c10.2.2.1 p (by omega)).trans b3
  have t4' : U4 440 p = sK s j - 23 := (c7.2.2.1 p (by omega)).trans b3
  obtain ⟨e1, e2, e3, e4, e5⟩ := pop_ F S c8 (by omega) (by omega) (by omega) t4 (by omega) c9
  have nb : ¬ (rk (sK s j - 23) = 7 ∨ sK s j - 23 = 20) := by rw [hk.2]; omega
  rw [if_neg nb] at e2
  rw [hk.2] at e1
  have fU4 : frQ s p w U U4 := b4.tr c7 (by omega) (by omega)
  have fW4 : frQ s p w U W4 := b4.tr c10 (by omega) (by omega)
  have m1 : ME (fun q => popM W4 438 (sX s + 73 + q)) w (w + g1) M1 := b5.ext (fun q q0 q1 => (e4.2.2.2 _ (Or.inl (by omega))).trans (c10.2.2.2 _ (Or.inl (by omega))))
  have m2 : ME (fun q => popM W4 438 (sX s + 73 + q)) (w + g1) (w + g1 + g2) M2 := c11.ext (fun q q0 q1 => e4.2.2.2 _ (Or.inl (by omega)))
  have m3 := ME_two m1 m2 B1 B2 (c := sK s j) hk.1 e5 (by omega)
  refine ⟨U4, popM W4, K4, p4, b1.trans c1, c2, c3, c4, by omega, fun k k0 k1 => ?_, fU4, ?_, e3, fW4.tr e4 (by omega) (by omega), ?_, fun q q1 q2 => (c12 q q1 (by omega)).trans (e1 q q1 q2)⟩
  · by_cases x : k = p
    · rw [x, t4']; omega
    · exact c6 k (by omega) k1
  · rw [show w + (g1 + g2 + 1) = w + g1 + g2 + 1 by omega]; exact e2
  · rw [show w + (g1 + g2 + 1) = w + g1 + g2 + 1 by omega]; exact m3
theorem MnA.step (F : Fix z) (S : SO s) (h1 : MoA z s l i j d g1 M1) (h2 : MnA z s (l + 1) (j + 1) j2 f d) (hl : l = 5 ∨ l = 6) (hd : 0 ≤ d ∧ d ≤ 8) (hi : 0 ≤ i ∧ i ≤ j ∧ j < sM s) (hg : 0 < g1 ∧ g1 ≤ j - i) (hk : (29 ≤ sK s j ∧ sK s j ≤ 32) ∧ rk (sK s j - 23) = l) : MnA z s l i j2 f d := by
  intro U K p w k0 m hp hw ha T
  have S1 := S.1
  have p0 := m.2.2.1
  obtain ⟨U3, K3, b1, b2, b3, b4, b5⟩ := h1.go F S hl hd (by omega) (by omega) hk m hp hw ha T
  have rko : rk (U3 440 p) = l := by rw [b3]; exact hk.2
  obtain ⟨U4, K4, c1, c2, c3⟩ := h2 U3 K3 (p + 1) (w + g1) k0 b2 (by omega) (by omega) (fun _ x => by
    have x2 := x.2
    rw [show p + 1 - 1 = p by omega, b3] at x2
    omega) (Or.inr (by rw [show p + 1 - 1 = p by omega, rko]; omega))
  exact ⟨U4, K4, b1.trans c1, c2, b4.tr c3 (by omega) (by omega)⟩
end
