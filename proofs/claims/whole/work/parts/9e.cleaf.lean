/-! THE READING, the class's small steps -/
theorem rkk_lo {M : Nat} {a : List Value} (h : M < 149) : rkk M a = M := by
  unfold rkk
  have e : (Nat.ble 149 M && Nat.blt M 157) = false := by
    have : Nat.ble 149 M = false := by
      rw [Bool.eq_false_iff]; intro x; have := Nat.le_of_ble_eq_true x; omega
    rw [this]; rfl
  rw [e]
theorem rkk_hi {M : Nat} {a : List Value} (h1 : 149 ≤ M) (h2 : M < 157) : rkk M a = M + 8 * (8 - dpt a) := by
  unfold rkk
  have e : (Nat.ble 149 M && Nat.blt M 157) = true := by
    rw [Bool.and_eq_true]
    exact ⟨Nat.ble_eq.mpr h1, Nat.ble_eq.mpr h2⟩
  rw [e]
theorem dpt_2 {d : Int} (hd : 0 ≤ d ∧ d ≤ 20) : dpt [.ref 424, .int (iv d)] = d.toNat := by
  have q := iv_clamp (a := d) (by omega)
  show (iv d).toNatClampNeg = d.toNat
  omega
theorem dpt_3 {d k : Int} (hd : 0 ≤ d ∧ d ≤ 20) : dpt [.ref 424, .int (iv k), .int (iv d)] = d.toNat := by
  have q := iv_clamp (a := d) (by omega)
  show (iv d).toNatClampNeg = d.toNat
  omega
theorem grd_t {a b : Nat} {r : Rs} (h : a < b) : grd (true && Nat.blt a b) r = r := by
  have e : (true && Nat.blt a b) = true := by
    show Nat.blt a b = true
    exact Nat.ble_eq.mpr h
  rw [e]; rfl
theorem g_lo {M1 M2 : Nat} {a c : List Value} {r : Rs} (h1 : M1 < 149) (h2 : 149 ≤ M2 ∧ M2 < 157) : grd (true && Nat.blt (rkk M1 a) (rkk M2 c)) r = r := grd_t (by rw [rkk_lo h1, rkk_hi h2.1 h2.2]; omega)
theorem g_sd {M1 M2 : Nat} {d : Int} {r : Rs} (h : 149 ≤ M1 ∧ M1 < M2 ∧ M2 < 157) (hd : 0 ≤ d ∧ d ≤ 8) : grd (true && Nat.blt (rkk M1 [.ref 424, .int (iv d)]) (rkk M2 [.ref 424, .int (iv d)])) r = r := grd_t (by rw [rkk_hi h.1 (by omega), rkk_hi (by omega) h.2.2, dpt_2 (by omega)]; omega)
theorem g_32 {M1 : Nat} {d k : Int} {r : Rs} (h : 149 ≤ M1 ∧ M1 < 156) (hd : 0 ≤ d ∧ d ≤ 8) : grd (true && Nat.blt (rkk M1 [.ref 424, .int (iv d)]) (rkk m_Reader_readOpen [.ref 424, .int (iv k), .int (iv d)])) r = r := grd_t (by rw [rkk_hi h.1 (by omega), rkk_hi (M := m_Reader_readOpen) (by decide) (by decide), dpt_2 (by omega), dpt_3 (by omega)]; show M1 + _ < 156 + _; omega)
theorem g_23 {d k : Int} {r : Rs} (hd : 0 ≤ d ∧ d ≤ 7) : grd (true && Nat.blt (rkk m_Reader_readOpen [.ref 424, .int (iv k), .int (iv d + 1)]) (rkk m_Reader_readOne [.ref 424, .int (iv d)])) r = r := by
  have e : iv d + 1 = iv (d + 1) := iv_add d 1
  rw [e]
  exact grd_t (by rw [rkk_hi (M := m_Reader_readOpen) (by decide) (by decide), rkk_hi (M := m_Reader_readOne) (by decide) (by decide), dpt_2 (by omega), dpt_3 (by omega)]; show 156 + _ < 149 + _; omega)
theorem g_up {d : Int} {r : Rs} (hd : 0 ≤ d ∧ d ≤ 7) : grd (true && Nat.blt (rkk m_Reader_readAsk [.ref 424, .int (iv d + 1)]) (rkk m_Reader_readAsk [.ref 424, .int (iv d)])) r = r := by
  have e : iv d + 1 = iv (d + 1) := iv_add d 1
  rw [e]
  exact grd_t (by rw [rkk_hi (M := m_Reader_readAsk) (by decide) (by decide), rkk_hi (M := m_Reader_readAsk) (by decide) (by decide), dpt_2 (by omega), dpt_2 (by omega)]; omega)
/-- what the class has cut -/
def Cs (V : Vm) (s : Sm) : Prop := V 421 = sK s ∧ V 422 = sV s ∧ V 423 = sP s ∧ V 419 5 = sM s + 1
/-- what the reading of a sum touches -/
def frR (V V' : Vm) : Prop := (∀ a, a ≠ 424 → a ≠ 426 → V' a = V a) ∧ ∀ k, k ≠ 4 → k ≠ 8 → k ≠ 9 → k ≠ 10 → V' 424 k = V 424 k
theorem frR.rfl_ {V : Vm} : frR V V := ⟨fun _ _ _ => rfl, fun _ _ _ _ _ => rfl⟩
theorem frR.tr {V V' V'' : Vm} (h : frR V V') (h' : frR V' V'') : frR V V'' := ⟨fun a h1 h2 => (h'.1 a h1 h2).trans (h.1 a h1 h2), fun k h1 h2 h3 h4 => (h'.2 k h1 h2 h3 h4).trans (h.2 k h1 h2 h3 h4)⟩
theorem frR.cs {V V' : Vm} {s : Sm} (h : frR V V') (C : Cs V s) : Cs V' s := by
  unfold Cs at *
  rw [h.1 421 (by decide) (by decide), h.1 422 (by decide) (by decide), h.1 423 (by decide) (by decide), h.1 419 (by decide) (by decide)]
  exact C
theorem frR.w {V : Vm} {k x : Int} (h : k = 4 ∨ k = 8 ∨ k = 9 ∨ k = 10) : frR V (sv V 424 k x) := ⟨fun a h1 h2 => by simp (disch := first | decide | omega | (simp (disch := first | decide | omega) only [sv_s, sv_o, ur_s, ur_e, ur_o]; omega)) only [↓reduceIte, iv_add, iv_sub, iv_mul, iv_neg, iv_ltT, iv_ltF, iv_leT, iv_leF, iv_eqT, iv_eqF, iv_div, iv_mod, ↓bnI_s, ↓bnV_s, ↓bnJ_s, ↓bnR_s, rt_e, rt_0, rt_bz, sv_s, sv_o, ur_s, ur_e, ur_o, bz_T, bz_F, nat_eqF, Nat.reduceAdd], fun j h1 h2 h3 h4 => by simp (disch := first | decide | omega | (simp (disch := first | decide | omega) only [sv_s, sv_o, ur_s, ur_e, ur_o]; omega)) only [↓reduceIte, iv_add, iv_sub, iv_mul, iv_neg, iv_ltT, iv_ltF, iv_leT, iv_leF, iv_eqT, iv_eqF, iv_div, iv_mod, ↓bnI_s, ↓bnV_s, ↓bnJ_s, ↓bnR_s, rt_e, rt_0, rt_bz, sv_s, sv_o, ur_s, ur_e, ur_o, bz_T, bz_F, nat_eqF, Nat.reduceAdd]⟩
theorem frR.w6 {V : Vm} {k x : Int} : frR V (sv V 426 k x) := ⟨fun a h1 h2 => by simp (disch := first | decide | omega | (simp (disch := first | decide | omega) only [sv_s, sv_o, ur_s, ur_e, ur_o]; omega)) only [↓reduceIte, iv_add, iv_sub, iv_mul, iv_neg, iv_ltT, iv_ltF, iv_leT, iv_leF, iv_eqT, iv_eqF, iv_div, iv_mod, ↓bnI_s, ↓bnV_s, ↓bnJ_s, ↓bnR_s, rt_e, rt_0, rt_bz, sv_s, sv_o, ur_s, ur_e, ur_o, bz_T, bz_F, nat_eqF, Nat.reduceAdd], fun j h1 h2 h3 h4 => by simp (disch := first | decide | omega | (simp (disch := first | decide | omega) only [sv_s, sv_o, ur_s, ur_e, ur_o]; omega)) only [↓reduceIte, iv_add, iv_sub, iv_mul, iv_neg, iv_ltT, iv_ltF, iv_leT, iv_leF, iv_eqT, iv_eqF, iv_div, iv_mod, ↓bnI_s, ↓bnV_s, ↓bnJ_s, ↓bnR_s, rt_e, rt_0, rt_bz, sv_s, sv_o, ur_s, ur_e, ur_o, bz_T, bz_F, nat_eqF, Nat.reduceAdd]⟩
/-- one instruction of the class's code more -/
def cem (V : Vm) (w : Int) : Vm := sv (pt V 426 301 (V 424 4) w) 424 4 (min (V 424 4 + 1) 301)
theorem frR.cem_ {V : Vm} {w : Int} : frR V (cem V w) := by
  unfold cem pt
  split
  · exact frR.w6.tr (frR.w (by omega))
  · exact frR.w (by omega)
/-- the class at token i, no FAULT -/
def Cp (V : Vm) (s : Sm) (i c : Int) : Prop := Cs V s ∧ V 424 8 = i ∧ V 424 9 = 0 ∧ V 424 4 = c ∧ V 424 7 = sL s ∧ V 424 10 = -1
/-- the class behind a FAULT -/
def Cd (V : Vm) (s : Sm) (f g : Int) : Prop := Cs V s ∧ (0 ≤ V 424 8 ∧ V 424 8 ≤ sM s) ∧ (V 424 9 = f ∧ 1 ≤ f ∧ f ≤ 6) ∧ V 424 10 = g ∧ (0 ≤ V 424 4 ∧ V 424 4 ≤ 301)
theorem Cd.cem_ {V : Vm} {s : Sm} {f g w : Int} (D : Cd V s f g) : Cd (cem V w) s f g := by
  obtain ⟨d1, d2, d3, d4, d5⟩ := D
  have e : ∀ k, k ≠ 4 → cem V w 424 k = V 424 k := fun k hk => by
    unfold cem pt
    split
    · simp (disch := first | decide | omega | (simp (disch := first | decide | omega) only [sv_s, sv_o, ur_s, ur_e, ur_o]; omega)) only [↓reduceIte, iv_add, iv_sub, iv_mul, iv_neg, iv_ltT, iv_ltF, iv_leT, iv_leF, iv_eqT, iv_eqF, iv_div, iv_mod, ↓bnI_s, ↓bnV_s, ↓bnJ_s, ↓bnR_s, rt_e, rt_0, rt_bz, sv_s, sv_o, ur_s, ur_e, ur_o, bz_T, bz_F, nat_eqF, Nat.reduceAdd]
    · simp (disch := first | decide | omega | (simp (disch := first | decide | omega) only [sv_s, sv_o, ur_s, ur_e, ur_o]; omega)) only [↓reduceIte, iv_add, iv_sub, iv_mul, iv_neg, iv_ltT, iv_ltF, iv_leT, iv_leF, iv_eqT, iv_eqF, iv_div, iv_mod, ↓bnI_s, ↓bnV_s, ↓bnJ_s, ↓bnR_s, rt_e, rt_0, rt_bz, sv_s, sv_o, ur_s, ur_e, ur_o, bz_T, bz_F, nat_eqF, Nat.reduceAdd]
  have e4 : cem V w 424 4 = min (V 424 4 + 1) 301 := by unfold cem; simp (disch := first | decide | omega | (simp (disch := first | decide | omega) only [sv_s, sv_o, ur_s, ur_e, ur_o]; omega)) only [↓reduceIte, iv_add, iv_sub, iv_mul, iv_neg, iv_ltT, iv_ltF, iv_leT, iv_leF, iv_eqT, iv_eqF, iv_div, iv_mod, ↓bnI_s, ↓bnV_s, ↓bnJ_s, ↓bnR_s, rt_e, rt_0, rt_bz, sv_s, sv_o, ur_s, ur_e, ur_o, bz_T, bz_F, nat_eqF, Nat.reduceAdd]
  exact ⟨frR.cem_.cs d1, by rw [e 8 (by decide)]; exact d2, by rw [e 9 (by decide)]; exact d3, by rw [e 10 (by decide)]; exact d4, by rw [e4]; omega⟩
section
variable {V J : Vm} {z : Zz} {s : Sm} {i c d f g : Int}
theorem y_kind (F : Fix z) (S : SO s) (C : Cs V s) (hi : 0 ≤ V 424 8 ∧ V 424 8 ≤ sM s) : cA m_Reader_kind [.ref 424] (em V J z) = some (.int (iv (sK s (V 424 8))), em V J z) := by
  obtain ⟨c1, c2, c3, c4⟩ := C
  have S1 := S.1
  generalize h8 : V 424 8 = x at *
  simp (disch := first | decide | omega | (simp (disch := first | decide | omega) only [sv_s, sv_o, ur_s, ur_e, ur_o]; omega)) only [↓reduceIte, iv_add, iv_sub, iv_mul, iv_neg, iv_ltT, iv_ltF, iv_leT, iv_leF, iv_eqT, iv_eqF, iv_div, iv_mod, ↓bnI_s, ↓bnV_s, ↓bnJ_s, ↓bnR_s, rt_e, rt_0, rt_bz, sv_s, sv_o, ur_s, ur_e, ur_o, bz_T, bz_F, nat_eqF, Nat.reduceAdd, ↓q_Reader_kind, ↓gI_424_8 F, ↓gR_424_0 F, ↓gI_419_5 F, ↓gR_419_2 F, ↓gd_424 F, il_0, il_1, il_2, il_4, il_5, il_8, il_20, il_40, h8, c1, c4, y_get (s_421 F), rd_in]
theorem y_fail0 (F : Fix z) (S : SO s) (P : Cp V s i c) (hi : 0 ≤ i ∧ i ≤ sM s) : cA m_Reader_fail [.ref 424, .int (iv f)] (em V J z) = some (.null, em (sv (sv V 424 9 f) 424 10 (sP s i)) J z) := by
  obtain ⟨⟨c1, c2, c3, c4⟩, p2, p3, p4, p5⟩ := P
  have S1 := S.1
  simp (disch := first | decide | omega | (simp (disch := first | decide | omega) only [sv_s, sv_o, ur_s, ur_e, ur_o]; omega)) only [↓reduceIte, iv_add, iv_sub, iv_mul, iv_neg, iv_ltT, iv_ltF, iv_leT, iv_leF, iv_eqT, iv_eqF, iv_div, iv_mod, ↓bnI_s, ↓bnV_s, ↓bnJ_s, ↓bnR_s, rt_e, rt_0, rt_bz, sv_s, sv_o, ur_s, ur_e, ur_o, bz_T, bz_F, nat_eqF, Nat.reduceAdd, ↓q_Reader_fail, ↓gI_424_9 F, ↓gR_424_0 F, ↓gR_419_4 F, ↓gI_424_8 F, ↓pI_424_9 F, ↓pI_424_10 F, ↓gd_424 F, il_0, il_1, il_4, il_8, il_9, il_10, il_20, p2, p3, c3, y_get (s_423 F), rd_in]
theorem y_faild (F : Fix z) (D : Cd V s f g) {x : Int} : cA m_Reader_fail [.ref 424, .int (iv x)] (em V J z) = some (.null, em V J z) := by
  obtain ⟨d1, d2, ⟨d3, d3a, d3b⟩, d4, d5⟩ := D
  simp (disch := first | decide | omega | (simp (disch := first | decide | omega) only [sv_s, sv_o, ur_s, ur_e, ur_o]; omega)) only [↓reduceIte, iv_add, iv_sub, iv_mul, iv_neg, iv_ltT, iv_ltF, iv_leT, iv_leF, iv_eqT, iv_eqF, iv_div, iv_mod, ↓bnI_s, ↓bnV_s, ↓bnJ_s, ↓bnR_s, rt_e, rt_0, rt_bz, sv_s, sv_o, ur_s, ur_e, ur_o, bz_T, bz_F, nat_eqF, Nat.reduceAdd, ↓q_Reader_fail, ↓gI_424_9 F, ↓gR_424_0 F, ↓gR_419_4 F, ↓gI_424_8 F, ↓pI_424_9 F, ↓pI_424_10 F, ↓gd_424 F, il_0, il_1, il_4, il_8, il_9, il_10, il_20, d3]
theorem y_expect1 (F : Fix z) (S : SO s) (P : Cp V s i c) (hi : 0 ≤ i ∧ i ≤ sM s) {k : Int} (hk : sK s i = k) : cA m_Reader_expect [.ref 424, .int (iv k)] (em V J z) = some (.null, em (sv V 424 8 (i + 1)) J z) := by
  obtain ⟨p1, p2, p3, p4, p5⟩ := P
  have kd := y_kind (J := J) F S p1 (by omega)
  rw [p2, hk] at kd
  simp (disch := first | decide | omega | (simp (disch := first | decide | omega) only [sv_s, sv_o, ur_s, ur_e, ur_o]; omega)) only [↓reduceIte, iv_add, iv_sub, iv_mul, iv_neg, iv_ltT, iv_ltF, iv_leT, iv_leF, iv_eqT, iv_eqF, iv_div, iv_mod, ↓bnI_s, ↓bnV_s, ↓bnJ_s, ↓bnR_s, rt_e, rt_0, rt_bz, sv_s, sv_o, ur_s, ur_e, ur_o, bz_T, bz_F, nat_eqF, Nat.reduceAdd, ↓q_Reader_expect, ↓gI_424_9 F, ↓gI_424_8 F, ↓pI_424_8 F, ↓gd_424 F, il_0, il_1, il_4, il_8, il_9, il_20, p3, kd, p2]
theorem y_expect0 (F : Fix z) (S : SO s) (P : Cp V s i c) (hi : 0 ≤ i ∧ i ≤ sM s) {k : Int} (hk : sK s i ≠ k) (kr : 0 ≤ k ∧ k ≤ 41) : cA m_Reader_expect [.ref 424, .int (iv k)] (em V J z) = some (.null, em (sv (sv V 424 9 1) 424 10 (sP s i)) J z) := by
  have fl := y_fail0 (J := J) (f := 1) F S P hi
  obtain ⟨p1, p2, p3, p4, p5⟩ := P
  have kd := y_kind (J := J) F S p1 (by omega)
  have r := (S.rg hi.1 hi.2).2.2.1
  rw [p2] at kd
  have ne : sK s i < k ∨ k < sK s i := by omega
  generalize sK s i = x at *
  simp (disch := first | decide | omega | (simp (disch := first | decide | omega) only [sv_s, sv_o, ur_s, ur_e, ur_o]; omega)) only [↓reduceIte, iv_add, iv_sub, iv_mul, iv_neg, iv_ltT, iv_ltF, iv_leT, iv_leF, iv_eqT, iv_eqF, iv_div, iv_mod, ↓bnI_s, ↓bnV_s, ↓bnJ_s, ↓bnR_s, rt_e, rt_0, rt_bz, sv_s, sv_o, ur_s, ur_e, ur_o, bz_T, bz_F, nat_eqF, Nat.reduceAdd, ↓q_Reader_expect, ↓gI_424_9 F, ↓gI_424_8 F, ↓pI_424_8 F, ↓gd_424 F, il_0, il_1, il_4, il_8, il_9, il_20, p3, kd, p2, fl]
theorem y_expectd (F : Fix z) (D : Cd V s f g) {x : Int} : cA m_Reader_expect [.ref 424, .int (iv x)] (em V J z) = some (.null, em V J z) := by
  have fl := y_faild (J := J) (x := 1) F D
  obtain ⟨d1, d2, ⟨d3, d3a, d3b⟩, d4, d5⟩ := D
  simp (disch := first | decide | omega | (simp (disch := first | decide | omega) only [sv_s, sv_o, ur_s, ur_e, ur_o]; omega)) only [↓reduceIte, iv_add, iv_sub, iv_mul, iv_neg, iv_ltT, iv_ltF, iv_leT, iv_leF, iv_eqT, iv_eqF, iv_div, iv_mod, ↓bnI_s, ↓bnV_s, ↓bnJ_s, ↓bnR_s, rt_e, rt_0, rt_bz, sv_s, sv_o, ur_s, ur_e, ur_o, bz_T, bz_F, nat_eqF, Nat.reduceAdd, ↓q_Reader_expect, ↓gI_424_9 F, ↓gI_424_8 F, ↓pI_424_8 F, ↓gd_424 F, il_0, il_1, il_4, il_8, il_9, il_20, d3, fl]
theorem y_cemit (F : Fix z) {x y : Int} (h4 : 0 ≤ V 424 4 ∧ V 424 4 ≤ 301) : cA m_Reader_emit [.ref 424, .int (iv x), .int (iv y)] (em V J z) = some (.int (iv (min (V 424 4 + 1) 301 - 1)), em (cem V (x + 64 * y)) J z) := by
  unfold cem
  generalize hc : V 424 4 = q at *
  have mn : ∀ h : Mem, cA m_Math_min [.int (iv (q + 1)), .int (iv 301)] h = some (.int (iv (min (q + 1) 301)), h) := fun h => y_min (by omega)
  have pp : pt V 426 301 q (x + 64 * y) 424 = V 424 := by
    unfold pt
    split
    · simp (disch := first | decide | omega | (simp (disch := first | decide | omega) only [sv_s, sv_o, ur_s, ur_e, ur_o]; omega)) only [↓reduceIte, iv_add, iv_sub, iv_mul, iv_neg, iv_ltT, iv_ltF, iv_leT, iv_leF, iv_eqT, iv_eqF, iv_div, iv_mod, ↓bnI_s, ↓bnV_s, ↓bnJ_s, ↓bnR_s, rt_e, rt_0, rt_bz, sv_s, sv_o, ur_s, ur_e, ur_o, bz_T, bz_F, nat_eqF, Nat.reduceAdd]
    · rfl
  simp (disch := first | decide | omega | (simp (disch := first | decide | omega) only [sv_s, sv_o, ur_s, ur_e, ur_o]; omega)) only [↓reduceIte, iv_add, iv_sub, iv_mul, iv_neg, iv_ltT, iv_ltF, iv_leT, iv_leF, iv_eqT, iv_eqF, iv_div, iv_mod, ↓bnI_s, ↓bnV_s, ↓bnJ_s, ↓bnR_s, rt_e, rt_0, rt_bz, sv_s, sv_o, ur_s, ur_e, ur_o, bz_T, bz_F, nat_eqF, Nat.reduceAdd, ↓q_Reader_emit, ↓gR_424_2 F, ↓gI_424_4 F, ↓pI_424_4 F, ↓nI_18 F, ↓nI_19 F, ↓nI_20 F, ↓nI_22 F, ↓nI_23 F, ↓nI_25 F, ↓nI_26 F, ↓nI_28 F, ↓nI_29 F, ↓nI_418 F, ↓nI_420 F, ↓nI_421 F, ↓nI_422 F, ↓nI_423 F, ↓nI_425 F, ↓nI_426 F, ↓nI_428 F, ↓nI_429 F, ↓nI_432 F, ↓nI_433 F, ↓nI_434 F, ↓gd_424 F, il_0, il_1, il_2, il_4, il_20, il_64, hc, y_put (s_426 F), pp, mn, Int.cast_ofNat_Int]
theorem y_leap (F : Fix z) {a x : Int} (h4 : 0 ≤ V 424 4 ∧ V 424 4 ≤ 301) (ha : 0 ≤ a ∧ a < 301) (hx : V 426 a = x) (x0 : 0 ≤ x ∧ x < 1000000) : cA m_Reader_leapToHere [.ref 424, .int (iv a)] (em V J z) = some (.null, em (sv V 426 a (x % 64 + 64 * V 424 4)) J z) := by
  generalize hc : V 424 4 = q at *
  simp (disch := first | decide | omega | (simp (disch := first | decide | omega) only [sv_s, sv_o, ur_s, ur_e, ur_o]; omega)) only [↓reduceIte, iv_add, iv_sub, iv_mul, iv_neg, iv_ltT, iv_ltF, iv_leT, iv_leF, iv_eqT, iv_eqF, iv_div, iv_mod, ↓bnI_s, ↓bnV_s, ↓bnJ_s, ↓bnR_s, rt_e, rt_0, rt_bz, sv_s, sv_o, ur_s, ur_e, ur_o, bz_T, bz_F, nat_eqF, Nat.reduceAdd, ↓q_Reader_leapToHere, ↓gR_424_2 F, ↓gI_424_4 F, ↓gd_424 F, il_0, il_1, il_2, il_4, il_20, il_64, hc, y_get (s_426 F), y_put (s_426 F), rd_in, pt_in, hx]
theorem y_isName {k : Int} {h : Mem} (hk : 0 ≤ k ∧ k ≤ 41) : cA m_Kind_isName [.int (iv k)] h = some (.int (iv (bz (k = 3 ∨ (10 ≤ k ∧ k ≤ 15)))), h) := by
  by_cases h3 : k = 3
  · rw [bz_T (Or.inl h3), h3]; simp (disch := first | decide | omega | (simp (disch := first | decide | omega) only [sv_s, sv_o, ur_s, ur_e, ur_o]; omega)) only [↓reduceIte, iv_add, iv_sub, iv_mul, iv_neg, iv_ltT, iv_ltF, iv_leT, iv_leF, iv_eqT, iv_eqF, iv_div, iv_mod, ↓bnI_s, ↓bnV_s, ↓bnJ_s, ↓bnR_s, rt_e, rt_0, rt_bz, sv_s, sv_o, ur_s, ur_e, ur_o, bz_T, bz_F, nat_eqF, Nat.reduceAdd, ↓q_Kind_isName, il_0, il_1, il_3, il_10, il_15]
  · have h3' : k < 3 ∨ 3 < k := by omega
    by_cases h1 : 10 ≤ k
    · by_cases h2 : k ≤ 15
      · rw [bz_T (Or.inr ⟨h1, h2⟩)]; simp (disch := first | decide | omega | (simp (disch := first | decide | omega) only [sv_s, sv_o, ur_s, ur_e, ur_o]; omega)) only [↓reduceIte, iv_add, iv_sub, iv_mul, iv_neg, iv_ltT, iv_ltF, iv_leT, iv_leF, iv_eqT, iv_eqF, iv_div, iv_mod, ↓bnI_s, ↓bnV_s, ↓bnJ_s, ↓bnR_s, rt_e, rt_0, rt_bz, sv_s, sv_o, ur_s, ur_e, ur_o, bz_T, bz_F, nat_eqF, Nat.reduceAdd, ↓q_Kind_isName, il_0, il_1, il_3, il_10, il_15]
      · rw [bz_F (by omega)]; simp (disch := first | decide | omega | (simp (disch := first | decide | omega) only [sv_s, sv_o, ur_s, ur_e, ur_o]; omega)) only [↓reduceIte, iv_add, iv_sub, iv_mul, iv_neg, iv_ltT, iv_ltF, iv_leT, iv_leF, iv_eqT, iv_eqF, iv_div, iv_mod, ↓bnI_s, ↓bnV_s, ↓bnJ_s, ↓bnR_s, rt_e, rt_0, rt_bz, sv_s, sv_o, ur_s, ur_e, ur_o, bz_T, bz_F, nat_eqF, Nat.reduceAdd, ↓q_Kind_isName, il_0, il_1, il_3, il_10, il_15]
    · rw [bz_F (by omega)]; simp (disch := first | decide | omega | (simp (disch := first | decide | omega) only [sv_s, sv_o, ur_s, ur_e, ur_o]; omega)) only [↓reduceIte, iv_add, iv_sub, iv_mul, iv_neg, iv_ltT, iv_ltF, iv_leT, iv_leF, iv_eqT, iv_eqF, iv_div, iv_mod, ↓bnI_s, ↓bnV_s, ↓bnJ_s, ↓bnR_s, rt_e, rt_0, rt_bz, sv_s, sv_o, ur_s, ur_e, ur_o, bz_T, bz_F, nat_eqF, Nat.reduceAdd, ↓q_Kind_isName, il_0, il_1, il_3, il_10, il_15]
theorem y_opensOne {k : Int} {h : Mem} (hk : 0 ≤ k ∧ k ≤ 41) : cA m_Kind_opensOne [.int (iv k)] h = some (.int (iv (bz (k = 33 ∨ k = 30 ∨ (16 ≤ k ∧ k ≤ 18)))), h) := by
  by_cases h3 : k = 33
  · rw [bz_T (Or.inl h3), h3]; simp (disch := first | decide | omega | (simp (disch := first | decide | omega) only [sv_s, sv_o, ur_s, ur_e, ur_o]; omega)) only [↓reduceIte, iv_add, iv_sub, iv_mul, iv_neg, iv_ltT, iv_ltF, iv_leT, iv_leF, iv_eqT, iv_eqF, iv_div, iv_mod, ↓bnI_s, ↓bnV_s, ↓bnJ_s, ↓bnR_s, rt_e, rt_0, rt_bz, sv_s, sv_o, ur_s, ur_e, ur_o, bz_T, bz_F, nat_eqF, Nat.reduceAdd, ↓q_Kind_opensOne, il_0, il_1, il_16, il_18, il_30, il_33]
  · by_cases h4 : k = 30
    · rw [bz_T (Or.inr (Or.inl h4)), h4]; simp (disch := first | decide | omega | (simp (disch := first | decide | omega) only [sv_s, sv_o, ur_s, ur_e, ur_o]; omega)) only [↓reduceIte, iv_add, iv_sub, iv_mul, iv_neg, iv_ltT, iv_ltF, iv_leT, iv_leF, iv_eqT, iv_eqF, iv_div, iv_mod, ↓bnI_s, ↓bnV_s, ↓bnJ_s, ↓bnR_s, rt_e, rt_0, rt_bz, sv_s, sv_o, ur_s, ur_e, ur_o, bz_T, bz_F, nat_eqF, Nat.reduceAdd, ↓q_Kind_opensOne, il_0, il_1, il_16, il_18, il_30, il_33]
    · have h3' : k < 33 ∨ 33 < k := by omega
      have h4' : k < 30 ∨ 30 < k := by omega
      by_cases h1 : 16 ≤ k
      · by_cases h2 : k ≤ 18
        · rw [bz_T (by omega)]; simp (disch := first | decide | omega | (simp (disch := first | decide | omega) only [sv_s, sv_o, ur_s, ur_e, ur_o]; omega)) only [↓reduceIte, iv_add, iv_sub, iv_mul, iv_neg, iv_ltT, iv_ltF, iv_leT, iv_leF, iv_eqT, iv_eqF, iv_div, iv_mod, ↓bnI_s, ↓bnV_s, ↓bnJ_s, ↓bnR_s, rt_e, rt_0, rt_bz, sv_s, sv_o, ur_s, ur_e, ur_o, bz_T, bz_F, nat_eqF, Nat.reduceAdd, ↓q_Kind_opensOne, il_0, il_1, il_16, il_18, il_30, il_33]
        · rw [bz_F (by omega)]; simp (disch := first | decide | omega | (simp (disch := first | decide | omega) only [sv_s, sv_o, ur_s, ur_e, ur_o]; omega)) only [↓reduceIte, iv_add, iv_sub, iv_mul, iv_neg, iv_ltT, iv_ltF, iv_leT, iv_leF, iv_eqT, iv_eqF, iv_div, iv_mod, ↓bnI_s, ↓bnV_s, ↓bnJ_s, ↓bnR_s, rt_e, rt_0, rt_bz, sv_s, sv_o, ur_s, ur_e, ur_o, bz_T, bz_F, nat_eqF, Nat.reduceAdd, ↓q_Kind_opensOne, il_0, il_1, il_16, il_18, il_30, il_33]
      · rw [bz_F (by omega)]; simp (disch := first | decide | omega | (simp (disch := first | decide | omega) only [sv_s, sv_o, ur_s, ur_e, ur_o]; omega)) only [↓reduceIte, iv_add, iv_sub, iv_mul, iv_neg, iv_ltT, iv_ltF, iv_leT, iv_leF, iv_eqT, iv_eqF, iv_div, iv_mod, ↓bnI_s, ↓bnV_s, ↓bnJ_s, ↓bnR_s, rt_e, rt_0, rt_bz, sv_s, sv_o, ur_s, ur_e, ur_o, bz_T, bz_F, nat_eqF, Nat.reduceAdd, ↓q_Kind_opensOne, il_0, il_1, il_16, il_18, il_30, il_33]
theorem y_isComparison {k : Int} {h : Mem} (hk : 0 ≤ k ∧ k ≤ 41) : cA m_Kind_isComparison [.int (iv k)] h = some (.int (iv (bz ((25 ≤ k ∧ k ≤ 28) ∨ k = 36 ∨ k = 37))), h) := by
  by_cases h3 : k = 36
  · rw [bz_T (by omega), h3]; simp (disch := first | decide | omega | (simp (disch := first | decide | omega) only [sv_s, sv_o, ur_s, ur_e, ur_o]; omega)) only [↓reduceIte, iv_add, iv_sub, iv_mul, iv_neg, iv_ltT, iv_ltF, iv_leT, iv_leF, iv_eqT, iv_eqF, iv_div, iv_mod, ↓bnI_s, ↓bnV_s, ↓bnJ_s, ↓bnR_s, rt_e, rt_0, rt_bz, sv_s, sv_o, ur_s, ur_e, ur_o, bz_T, bz_F, nat_eqF, Nat.reduceAdd, ↓q_Kind_isComparison, ↓q_Kind_isComparison_12, il_0, il_1, il_12, il_25, il_28, il_36, il_37]
  · by_cases h4 : k = 37
    · rw [bz_T (by omega), h4]; simp (disch := first | decide | omega | (simp (disch := first | decide | omega) only [sv_s, sv_o, ur_s, ur_e, ur_o]; omega)) only [↓reduceIte, iv_add, iv_sub, iv_mul, iv_neg, iv_ltT, iv_ltF, iv_leT, iv_leF, iv_eqT, iv_eqF, iv_div, iv_mod, ↓bnI_s, ↓bnV_s, ↓bnJ_s, ↓bnR_s, rt_e, rt_0, rt_bz, sv_s, sv_o, ur_s, ur_e, ur_o, bz_T, bz_F, nat_eqF, Nat.reduceAdd, ↓q_Kind_isComparison, ↓q_Kind_isComparison_12, il_0, il_1, il_12, il_25, il_28, il_36, il_37]
    · have h3' : k < 36 ∨ 36 < k := by omega
      have h4' : k < 37 ∨ 37 < k := by omega
      by_cases h1 : 25 ≤ k
      · by_cases h2 : k ≤ 28
        · rw [bz_T (by omega)]; simp (disch := first | decide | omega | (simp (disch := first | decide | omega) only [sv_s, sv_o, ur_s, ur_e, ur_o]; omega)) only [↓reduceIte, iv_add, iv_sub, iv_mul, iv_neg, iv_ltT, iv_ltF, iv_leT, iv_leF, iv_eqT, iv_eqF, iv_div, iv_mod, ↓bnI_s, ↓bnV_s, ↓bnJ_s, ↓bnR_s, rt_e, rt_0, rt_bz, sv_s, sv_o, ur_s, ur_e, ur_o, bz_T, bz_F, nat_eqF, Nat.reduceAdd, ↓q_Kind_isComparison, ↓q_Kind_isComparison_12, il_0, il_1, il_12, il_25, il_28, il_36, il_37]
        · rw [bz_F (by omega)]; simp (disch := first | decide | omega | (simp (disch := first | decide | omega) only [sv_s, sv_o, ur_s, ur_e, ur_o]; omega)) only [↓reduceIte, iv_add, iv_sub, iv_mul, iv_neg, iv_ltT, iv_ltF, iv_leT, iv_leF, iv_eqT, iv_eqF, iv_div, iv_mod, ↓bnI_s, ↓bnV_s, ↓bnJ_s, ↓bnR_s, rt_e, rt_0, rt_bz, sv_s, sv_o, ur_s, ur_e, ur_o, bz_T, bz_F, nat_eqF, Nat.reduceAdd, ↓q_Kind_isComparison, ↓q_Kind_isComparison_12, il_0, il_1, il_12, il_25, il_28, il_36, il_37]
      · rw [bz_F (by omega)]; simp (disch := first | decide | omega | (simp (disch := first | decide | omega) only [sv_s, sv_o, ur_s, ur_e, ur_o]; omega)) only [↓reduceIte, iv_add, iv_sub, iv_mul, iv_neg, iv_ltT, iv_ltF, iv_leT, iv_leF, iv_eqT, iv_eqF, iv_div, iv_mod, ↓bnI_s, ↓bnV_s, ↓bnJ_s, ↓bnR_s, rt_e, rt_0, rt_bz, sv_s, sv_o, ur_s, ur_e, ur_o, bz_T, bz_F, nat_eqF, Nat.reduceAdd, ↓q_Kind_isComparison, ↓q_Kind_isComparison_12, il_0, il_1, il_12, il_25, il_28, il_36, il_37]
/-- behind a FAULT nothing more happens -/
theorem dd_one (F : Fix z) (S : SO s) (D : Cd V s f g) (hd : 0 ≤ d ∧ d ≤ 8) : cA m_Reader_readOne [.ref 424, .int (iv d)] (em V J z) = some (.null, em V J z) := by
  have kd := y_kind (J := J) F S D.1 D.2.1
  obtain ⟨d1, d2, ⟨d3, d3a, d3b⟩, d4, d5⟩ := D
  simp (disch := first | decide | omega | (simp (disch := first | decide | omega) only [sv_s, sv_o, ur_s, ur_e, ur_o]; omega)) only [↓reduceIte, iv_add, iv_sub, iv_mul, iv_neg, iv_ltT, iv_ltF, iv_leT, iv_leF, iv_eqT, iv_eqF, iv_div, iv_mod, ↓bnI_s, ↓bnV_s, ↓bnJ_s, ↓bnR_s, rt_e, rt_0, rt_bz, sv_s, sv_o, ur_s, ur_e, ur_o, bz_T, bz_F, nat_eqF, Nat.reduceAdd, ↓q_Reader_readOne, ↓gI_424_9 F, ↓gI_424_8 F, ↓pI_424_8 F, ↓gd_424 F, il_0, il_1, il_3, il_4, il_8, il_9, il_20, il_38, il_9999, ↓g_lo, kd, d3]
theorem dd_product (F : Fix z) (S : SO s) (D : Cd V s f g) (hd : 0 ≤ d ∧ d ≤ 8) : cA m_Reader_readProduct [.ref 424, .int (iv d)] (em V J z) = some (.null, em V J z) := by
  have o := dd_one (J := J) F S D hd
  obtain ⟨d1, d2, ⟨d3, d3a, d3b⟩, d4, d5⟩ := D
  simp (disch := first | decide | omega | (simp (disch := first | decide | omega) only [sv_s, sv_o, ur_s, ur_e, ur_o]; omega)) only [↓reduceIte, iv_add, iv_sub, iv_mul, iv_neg, iv_ltT, iv_ltF, iv_leT, iv_leF, iv_eqT, iv_eqF, iv_div, iv_mod, ↓bnI_s, ↓bnV_s, ↓bnJ_s, ↓bnR_s, rt_e, rt_0, rt_bz, sv_s, sv_o, ur_s, ur_e, ur_o, bz_T, bz_F, nat_eqF, Nat.reduceAdd, ↓q_Reader_readProduct, ↓q_Reader_readProduct_7, ↓gd_424 F, ↓gI_424_9 F, il_0, il_1, il_4, il_7, il_9, il_20, il_31, il_32, il_39, il_300, ↓g_sd, o, d3]
theorem dd_sum (F : Fix z) (S : SO s) (D : Cd V s f g) (hd : 0 ≤ d ∧ d ≤ 8) : cA m_Reader_readSum [.ref 424, .int (iv d)] (em V J z) = some (.null, em V J z) := by
  have o := dd_product (J := J) F S D hd
  obtain ⟨d1, d2, ⟨d3, d3a, d3b⟩, d4, d5⟩ := D
  simp (disch := first | decide | omega | (simp (disch := first | decide | omega) only [sv_s, sv_o, ur_s, ur_e, ur_o]; omega)) only [↓reduceIte, iv_add, iv_sub, iv_mul, iv_neg, iv_ltT, iv_ltF, iv_leT, iv_leF, iv_eqT, iv_eqF, iv_div, iv_mod, ↓bnI_s, ↓bnV_s, ↓bnJ_s, ↓bnR_s, rt_e, rt_0, rt_bz, sv_s, sv_o, ur_s, ur_e, ur_o, bz_T, bz_F, nat_eqF, Nat.reduceAdd, ↓q_Reader_readSum, ↓q_Reader_readSum_7, ↓gd_424 F, ↓gI_424_9 F, il_0, il_1, il_4, il_7, il_9, il_20, il_29, il_30, il_39, il_300, ↓g_sd, o, d3]
end
