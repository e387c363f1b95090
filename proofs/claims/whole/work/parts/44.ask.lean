/-! WHAT TO ASK -/
/-- how often each answer has come, of the first so many; and the most -/
def oc (L : List Nat) (r : Nat) : Nat → Int → Int
  | 0 => fun _ => 0
  | i + 1 => ur (oc L r i) (an r (L.getD i 0)) (oc L r i (an r (L.getD i 0)) + 1)
def mo (L : List Nat) (r : Nat) : Nat → Int
  | 0 => 0
  | i + 1 => max (mo L r i) (oc L r i (an r (L.getD i 0)) + 1)
theorem oc_rg (L : List Nat) (r : Nat) : ∀ (i : Nat) (k : Int), 0 ≤ oc L r i k ∧ oc L r i k ≤ i := by
  intro i
  induction i with
  | zero => intro k; exact ⟨Int.le_refl 0, Int.le_refl 0⟩
  | succ i ih =>
    intro k
    show 0 ≤ ur (oc L r i) _ _ k ∧ ur (oc L r i) _ _ k ≤ ((i + 1 : Nat) : Int)
    by_cases e : k = an r (L.getD i 0)
    · rw [e, ur_s]; have := ih (an r (L.getD i 0)); omega
    · rw [ur_o e]; have := ih k; omega
theorem mo_rg (L : List Nat) (r : Nat) : ∀ (i : Nat), 0 ≤ mo L r i ∧ mo L r i ≤ i := by
  intro i
  induction i with
  | zero => exact ⟨Int.le_refl 0, Int.le_refl 0⟩
  | succ i ih =>
    have := oc_rg L r i (an r (L.getD i 0))
    show 0 ≤ max _ _ ∧ max _ _ ≤ ((i + 1 : Nat) : Int)
    omega
theorem mo_up (L : List Nat) (r : Nat) {i j : Nat} (h : i ≤ j) : mo L r i ≤ mo L r j := by
  induction j with
  | zero => rw [show i = 0 by omega]; exact Int.le_refl _
  | succ j ih =>
    by_cases e : i = j + 1
    · rw [e]; exact Int.le_refl _
    · have a := ih (by omega)
      have b : mo L r j ≤ mo L r (j + 1) := by show _ ≤ max _ _; omega
      omega
def Lst (L : List Nat) : Prop := L.length ≤ 125 ∧ ∀ k, k ∈ L → k < 125
theorem fl_lst (P : Nat → Prop) : Lst (fl' P 125) := ⟨fl_len P 125, fun k hk => (fl_mem P 125 k hk).1⟩
section
variable {V J : Vm} {z : Zz}
theorem y_fill_l (F : Fix z) : ∀ (m x : Nat) (V : Vm), x + m = 31 → (∀ k, 0 ≤ k → k < (x : Int) → V 434 k = 0) → ∃ V', (∀ a, a ≠ 434 → V' a = V a) ∧ (∀ k, 0 ≤ k → k < 31 → V' 434 k = 0) ∧ rX m_Arrays_fill m_Arrays_fill 5 [.ref 434, .int (iv 0), .int (iv x), .int (iv 31)] [] (em V J z) = some (.null, em V' J z) := by
  intro m
  induction m with
  | zero =>
    intro x V hx h
    refine ⟨V, fun _ _ => rfl, fun k h0 h1 => h k h0 (by omega), ?_⟩
    (rw [q_Arrays_fill_5]; simp (disch := first | decide | omega | (simp (disch := first | decide | omega) only [sv_s, sv_o, ur_s, ur_e, ur_o]; omega)) only [↓reduceIte, iv_add, iv_sub, iv_mul, iv_neg, iv_ltT, iv_ltF, iv_leT, iv_leF, iv_eqT, iv_eqF, iv_div, iv_mod, ↓bnI_s, ↓bnV_s, ↓bnJ_s, ↓bnR_s, rt_e, rt_0, rt_bz, sv_s, sv_o, ur_s, ur_e, ur_o, bz_T, bz_F, nat_eqF, ↓sI_18 F, ↓sI_19 F, ↓sI_20 F, ↓sI_22 F, ↓sI_23 F, ↓sI_25 F, ↓sI_26 F, ↓sI_28 F, ↓sI_29 F, ↓sI_418 F, ↓sI_420 F, ↓sI_421 F, ↓sI_422 F, ↓sI_423 F, ↓sI_425 F, ↓sI_426 F, ↓sI_428 F, ↓sI_429 F, ↓sI_432 F, ↓sI_433 F, ↓sI_434 F, il_0, il_1, il_5])
  | succ m ih =>
    intro x V hx h
    obtain ⟨V', f1, f2, f3⟩ := ih (x + 1) (sv V 434 x 0) (by omega) (fun k h0 h1 => by
      rw [sv_s]
      by_cases q : k = x
      · rw [q, ur_s]
      · rw [ur_o q]; exact h k h0 (by omega))
    refine ⟨V', fun a ha => (f1 a ha).trans (sv_o ha), f2, ?_⟩
    rw [← f3]
    (rw [q_Arrays_fill_5]; simp (disch := first | decide | omega | (simp (disch := first | decide | omega) only [sv_s, sv_o, ur_s, ur_e, ur_o]; omega)) only [↓reduceIte, iv_add, iv_sub, iv_mul, iv_neg, iv_ltT, iv_ltF, iv_leT, iv_leF, iv_eqT, iv_eqF, iv_div, iv_mod, ↓bnI_s, ↓bnV_s, ↓bnJ_s, ↓bnR_s, rt_e, rt_0, rt_bz, sv_s, sv_o, ur_s, ur_e, ur_o, bz_T, bz_F, nat_eqF, ↓sI_18 F, ↓sI_19 F, ↓sI_20 F, ↓sI_22 F, ↓sI_23 F, ↓sI_25 F, ↓sI_26 F, ↓sI_28 F, ↓sI_29 F, ↓sI_418 F, ↓sI_420 F, ↓sI_421 F, ↓sI_422 F, ↓sI_423 F, ↓sI_425 F, ↓sI_426 F, ↓sI_428 F, ↓sI_429 F, ↓sI_432 F, ↓sI_433 F, ↓sI_434 F, il_0, il_1, il_5, ↓sI_434 F, Int.natCast_add, Int.natCast_one])
theorem y_fill (F : Fix z) : ∃ V', (∀ a, a ≠ 434 → V' a = V a) ∧ (∀ k, 0 ≤ k → k < 31 → V' 434 k = 0) ∧ cA m_Arrays_fill [.ref 434, .int (iv 0)] (em V J z) = some (.null, em V' J z) := by
  obtain ⟨V', f1, f2, f3⟩ := y_fill_l (J := J) F 31 0 V (by omega) (fun k h0 h1 => absurd h1 (by omega))
  refine ⟨V', f1, f2, ?_⟩
  rw [← f3, q_Arrays_fill, nI_434 F, il_0]
  rfl
theorem y_alike_l (F : Fix z) {L : List Nat} (hL : Lst L) {r : Nat} (hr : r < 125) {lim : Int} (hl : -1000 ≤ lim ∧ lim ≤ 1000) : ∀ (m i : Nat) (V : Vm), Mrk V → V 431 3 = ln L → Arr (V 433) L → i + m = L.length → (∀ k, 0 ≤ k → k < 31 → V 434 k = oc L r i k) → ∃ V' w, (∀ a, a ≠ 434 → V' a = V a) ∧ (w = mo L r L.length ∨ (lim < w ∧ lim < mo L r L.length)) ∧ (0 ≤ w ∧ w ≤ 125) ∧ rX m_Rows_mostAlike m_Rows_mostAlike 13 [.ref 431, .int (iv r), .int (iv lim), .int (iv (mo L r i)), .int (iv i), dd, dd] [] (em V J z) = some (.int (iv w), em V' J z) := by
  intro m
  induction m with
  | zero =>
    intro i V M h3 hA hi ho
    have e : i = L.length := by omega
    have el : ln L = (L.length : Int) := rfl
    have l125 := hL.1
    have mr := mo_rg L r i
    refine ⟨V, mo L r i, fun _ _ => rfl, Or.inl (by rw [e]), by omega, ?_⟩
    (rw [q_Rows_mostAlike_13]; simp (disch := first | decide | omega | (simp (disch := first | decide | omega) only [sv_s, sv_o, ur_s, ur_e, ur_o]; omega)) only [↓reduceIte, iv_add, iv_sub, iv_mul, iv_neg, iv_ltT, iv_ltF, iv_leT, iv_leF, iv_eqT, iv_eqF, iv_div, iv_mod, ↓bnI_s, ↓bnV_s, ↓bnJ_s, ↓bnR_s, rt_e, rt_0, rt_bz, sv_s, sv_o, ur_s, ur_e, ur_o, bz_T, bz_F, nat_eqF, ↓gI_431_3 F, ↓gR_431_1 F, ↓gR_431_2 F, il_0, il_1, il_2, il_3, il_6, il_13])
  | succ m ih =>
    intro i V M h3 hA hi ho
    have el : ln L = (L.length : Int) := rfl
    have l125 := hL.1
    have mr := mo_rg L r i
    have up := mo_up L r (show i ≤ L.length by omega)
    by_cases q : mo L r i ≤ lim
    · have hm := hL.2 _ (getD_mem (L := L) (i := i) (by omega))
      have hAi := hA i (by omega)
      have rep := y_reply (J := J) F M (r := r) (q := L.getD i 0) hr hm
      have rg := an_rg hr hm
      have hoi := ho _ rg.1 (by omega)
      have og := oc_rg L r i (an r (L.getD i 0))
      obtain ⟨V', w, f1, f2, f3, f4⟩ := ih (i + 1) (sv V 434 (an r (L.getD i 0)) (oc L r i (an r (L.getD i 0)) + 1)) (fun r hr => by rw [sv_o (by decide)]; exact M r hr) (by rw [sv_o (by decide)]; exact h3) (by rw [sv_o (by decide)]; exact hA) (by omega) (fun k h0 h1 => by
        rw [sv_s]
        show _ = ur (oc L r i) (an r (L.getD i 0)) (oc L r i (an r (L.getD i 0)) + 1) k
        by_cases e : k = an r (L.getD i 0)
        · rw [e, ur_s, ur_s]
        · rw [ur_o e, ur_o e]; exact ho k h0 h1)
      refine ⟨V', w, fun a ha => (f1 a ha).trans (sv_o ha), f2, f3, ?_⟩
      rw [← f4]
      show _ = rX m_Rows_mostAlike m_Rows_mostAlike 13 [.ref 431, .int (iv r), .int (iv lim), .int (iv (max (mo L r i) (oc L r i (an r (L.getD i 0)) + 1))), .int (iv ((i + 1 : Nat) : Int)), dd, dd] [] _
      generalize L.getD i 0 = l at *
      generalize an r l = v at *
      generalize hov : oc L r i v = o at *
      (rw [q_Rows_mostAlike_13]; simp (disch := first | decide | omega | (simp (disch := first | decide | omega) only [sv_s, sv_o, ur_s, ur_e, ur_o]; omega)) only [↓reduceIte, iv_add, iv_sub, iv_mul, iv_neg, iv_ltT, iv_ltF, iv_leT, iv_leF, iv_eqT, iv_eqF, iv_div, iv_mod, ↓bnI_s, ↓bnV_s, ↓bnJ_s, ↓bnR_s, rt_e, rt_0, rt_bz, sv_s, sv_o, ur_s, ur_e, ur_o, bz_T, bz_F, nat_eqF, ↓gI_431_3 F, ↓gR_431_1 F, ↓gR_431_2 F, il_0, il_1, il_2, il_3, il_6, il_13, y_get (s_433 F) (by decide), y_get (s_434 F) (by decide), y_put (s_434 F) (by decide), rd_in, pt_in, hAi, rep, hoi, y_max, Int.natCast_add, Int.natCast_one])
    · refine ⟨V, mo L r i, fun _ _ => rfl, Or.inr ⟨by omega, by omega⟩, by omega, ?_⟩
      (rw [q_Rows_mostAlike_13]; simp (disch := first | decide | omega | (simp (disch := first | decide | omega) only [sv_s, sv_o, ur_s, ur_e, ur_o]; omega)) only [↓reduceIte, iv_add, iv_sub, iv_mul, iv_neg, iv_ltT, iv_ltF, iv_leT, iv_leF, iv_eqT, iv_eqF, iv_div, iv_mod, ↓bnI_s, ↓bnV_s, ↓bnJ_s, ↓bnR_s, rt_e, rt_0, rt_bz, sv_s, sv_o, ur_s, ur_e, ur_o, bz_T, bz_F, nat_eqF, ↓gI_431_3 F, ↓gR_431_1 F, ↓gR_431_2 F, il_0, il_1, il_2, il_3, il_6, il_13])
theorem y_alike (F : Fix z) {L : List Nat} (hL : Lst L) (M : Mrk V) (h3 : V 431 3 = ln L) (hA : Arr (V 433) L) {r : Nat} (hr : r < 125) {lim : Int} (hl : -1000 ≤ lim ∧ lim ≤ 1000) : ∃ V' w, (∀ a, a ≠ 434 → V' a = V a) ∧ (w = mo L r L.length ∨ (lim < w ∧ lim < mo L r L.length)) ∧ (0 ≤ w ∧ w ≤ 125) ∧ cA m_Rows_mostAlike [.ref 431, .int (iv r), .int (iv lim)] (em V J z) = some (.int (iv w), em V' J z) := by
  obtain ⟨V1, g1, g2, g3⟩ := y_fill (V := V) (J := J) F
  obtain ⟨V', w, f1, f2, f3, f4⟩ := y_alike_l (J := J) F hL hr hl L.length 0 V1 (fun r hr => by rw [g1 432 (by decide)]; exact M r hr) (by rw [g1 431 (by decide)]; exact h3) (by rw [g1 433 (by decide)]; exact hA) (by omega) (fun k h0 h1 => g2 k h0 h1)
  refine ⟨V', w, fun a ha => (f1 a ha).trans (g1 a ha), f2, f3, ?_⟩
  rw [← f4]
  simp (disch := first | decide | omega | (simp (disch := first | decide | omega) only [sv_s, sv_o, ur_s, ur_e, ur_o]; omega)) only [↓reduceIte, iv_add, iv_sub, iv_mul, iv_neg, iv_ltT, iv_ltF, iv_leT, iv_leF, iv_eqT, iv_eqF, iv_div, iv_mod, ↓bnI_s, ↓bnV_s, ↓bnJ_s, ↓bnR_s, rt_e, rt_0, rt_bz, sv_s, sv_o, ur_s, ur_e, ur_o, bz_T, bz_F, nat_eqF, ↓q_Rows_mostAlike, ↓gR_431_2 F, ↓gd_431 F, il_0, il_1, il_2, il_6, il_13, il_22, g3]
  rfl
/-- the class's search: the best row, its most, whether it fits -/
noncomputable def bsr (L : List Nat) (P : Nat → Prop) : Nat → Int × Int × Int
  | 0 => (-1, 126, 0)
  | r + 1 => @ite _ (mo L r L.length < (bsr L P r).2.1 ∨ (mo L r L.length = (bsr L P r).2.1 ∧ P r ∧ (bsr L P r).2.2 = 0)) (Classical.propDecidable _) ((r : Int), mo L r L.length, @ite Int (P r) (Classical.propDecidable _) 1 0) (bsr L P r)
theorem bsr_T {L : List Nat} {P : Nat → Prop} {r : Nat} (h : mo L r L.length < (bsr L P r).2.1 ∨ (mo L r L.length = (bsr L P r).2.1 ∧ P r ∧ (bsr L P r).2.2 = 0)) : bsr L P (r + 1) = ((r : Int), mo L r L.length, @ite Int (P r) (Classical.propDecidable _) 1 0) := by
  show @ite _ _ (Classical.propDecidable _) _ _ = _
  rw [if_pos h]
theorem bsr_F {L : List Nat} {P : Nat → Prop} {r : Nat} (h : ¬ (mo L r L.length < (bsr L P r).2.1 ∨ (mo L r L.length = (bsr L P r).2.1 ∧ P r ∧ (bsr L P r).2.2 = 0))) : bsr L P (r + 1) = bsr L P r := by
  show @ite _ _ (Classical.propDecidable _) _ _ = _
  rw [if_neg h]
theorem cp_T {P : Prop} (h : P) : @ite Int P (Classical.propDecidable _) 1 0 = 1 := if_pos h
theorem cp_F {P : Prop} (h : ¬ P) : @ite Int P (Classical.propDecidable _) 1 0 = 0 := if_neg h
theorem bsr_rg {L : List Nat} {P : Nat → Prop} (hL : L.length ≤ 125) : ∀ r, (-1 ≤ (bsr L P r).1 ∧ (bsr L P r).1 < r) ∧ (0 ≤ (bsr L P r).2.1 ∧ (bsr L P r).2.1 ≤ 126) ∧ ((bsr L P r).2.2 = 0 ∨ (bsr L P r).2.2 = 1) ∧ (0 < r → (bsr L P r).2.1 ≤ 125) := by
  intro r
  induction r with
  | zero => exact ⟨⟨Int.le_refl _, by show (-1 : Int) < ((0 : Nat) : Int); decide⟩, ⟨by show (0 : Int) ≤ 126; decide, Int.le_refl _⟩, Or.inl rfl, fun h => absurd h (by omega)⟩
  | succ r ih =>
    have m := mo_rg L r L.length
    by_cases h : mo L r L.length < (bsr L P r).2.1 ∨ (mo L r L.length = (bsr L P r).2.1 ∧ P r ∧ (bsr L P r).2.2 = 0)
    · rw [bsr_T h]
      refine ⟨⟨by show (-1 : Int) ≤ r; omega, by show (r : Int) < ((r + 1 : Nat) : Int); omega⟩, ⟨m.1, by show mo L r L.length ≤ 126; omega⟩, ?_, fun _ => by show mo L r L.length ≤ 125; omega⟩
      by_cases p : P r
      · exact Or.inr (cp_T p)
      · exact Or.inl (cp_F p)
    · rw [bsr_F h]
      obtain ⟨a1, a2, a3, a4⟩ := ih
      refine ⟨by omega, a2, a3, fun _ => ?_⟩
      by_cases r0 : r = 0
      · subst r0
        exact absurd (Or.inl (by show mo L 0 L.length < 126; omega)) h
      · exact a4 (by omega)
/-- whether the next row is one that fits, by the list so far -/
theorem fl_next {P : Nat → Prop} {r : Nat} (hr : r < 125) : (P r ↔ (fl' P r).length < (fl' P 125).length ∧ (fl' P 125).getD (fl' P r).length 0 = r) := by
  have pre : ∀ m, r + 1 + m ≤ 125 → ∃ T, fl' P (r + 1 + m) = fl' P (r + 1) ++ T ∧ ∀ k, k ∈ T → r < k := by
    intro m
    induction m with
    | zero => intro _; exact ⟨[], (List.append_nil _).symm, fun k h => by cases h⟩
    | succ m ih =>
      intro h
      obtain ⟨T, t1, t2⟩ := ih (by omega)
      by_cases p : P (r + 1 + m)
      · refine ⟨T ++ [r + 1 + m], ?_, ?_⟩
        · show fl' P (r + 1 + m + 1) = _
          rw [fl_T p, t1, List.append_assoc]
        · intro k hk
          rcases List.mem_append.mp hk with q | q
          · exact t2 k q
          · rw [List.mem_singleton.mp q]; omega
      · refine ⟨T, ?_, t2⟩
        show fl' P (r + 1 + m + 1) = _
        rw [fl_F p, t1]
  obtain ⟨T, t1, t2⟩ := pre (125 - (r + 1)) (by omega)
  rw [show r + 1 + (125 - (r + 1)) = 125 by omega] at t1
  rw [t1]
  by_cases p : P r
  · rw [fl_T p]
    refine ⟨fun _ => ⟨?_, ?_⟩, fun _ => p⟩
    · rw [List.length_append, List.length_append, List.length_singleton]; omega
    · rw [List.getD_eq_getElem?_getD, List.append_assoc, List.getElem?_append_right (Nat.le_refl _), Nat.sub_self]
      rfl
  · rw [fl_F p]
    refine ⟨fun q => absurd q p, fun q => ?_⟩
    have q1 := q.1
    rw [List.length_append] at q1
    have := t2 _ (getD_mem (L := T) (i := 0) (by omega))
    have q2 := q.2
    rw [List.getD_eq_getElem?_getD, List.getElem?_append_right (Nat.le_refl _), Nat.sub_self, ← List.getD_eq_getElem?_getD] at q2
    omega
theorem y_best_l (F : Fix z) {P : Nat → Prop} : ∀ (m r : Nat) (V : Vm), Mrk V → V 431 3 = ln (fl' P 125) → Arr (V 433) (fl' P 125) → r + m = 125 → ∃ V', (∀ a, a ≠ 434 → V' a = V a) ∧ rX m_Rows_bestAsked m_Rows_bestAsked 13 [.ref 431, .int (iv (bsr (fl' P 125) P r).1), .int (iv (bsr (fl' P 125) P r).2.1), .int (iv (bsr (fl' P 125) P r).2.2), .int (iv (ln (fl' P r))), .int (iv r), dd, dd] [] (em V J z) = some (.int (iv (bsr (fl' P 125) P 125).1), em V' J z) := by
  intro m
  induction m with
  | zero =>
    intro r V M h3 hA hr
    have e : r = 125 := by omega
    subst e
    refine ⟨V, fun _ _ => rfl, ?_⟩
    (rw [q_Rows_bestAsked_13]; simp (disch := first | decide | omega | (simp (disch := first | decide | omega) only [sv_s, sv_o, ur_s, ur_e, ur_o]; omega)) only [↓reduceIte, iv_add, iv_sub, iv_mul, iv_neg, iv_ltT, iv_ltF, iv_leT, iv_leF, iv_eqT, iv_eqF, iv_div, iv_mod, ↓bnI_s, ↓bnV_s, ↓bnJ_s, ↓bnR_s, rt_e, rt_0, rt_bz, sv_s, sv_o, ur_s, ur_e, ur_o, bz_T, bz_F, nat_eqF, ↓gI_431_3 F, ↓gR_431_1 F, il_0, il_1, il_3, il_6, il_13, il_62, il_125])
  | succ m ih =>
    intro r V M h3 hA hr
    have hL := fl_lst P
    obtain ⟨b1, b2, b3, b4⟩ := bsr_rg (L := fl' P 125) (P := P) hL.1 r
    have lr := ln_fl P r
    have l1 := ln_fl P 125
    have el : ln (fl' P 125) = ((fl' P 125).length : Int) := rfl
    have er : ln (fl' P r) = ((fl' P r).length : Int) := rfl
    obtain ⟨V1, w, f1, f2, f3, f4⟩ := y_alike (J := J) F hL M h3 hA (r := r) (by omega) (lim := (bsr (fl' P 125) P r).2.1) (by omega)
    obtain ⟨V', g1, g2⟩ := ih (r + 1) V1 (fun r hr => by rw [f1 432 (by decide)]; exact M r hr) (by rw [f1 431 (by decide)]; exact h3) (by rw [f1 433 (by decide)]; exact hA) (by omega)
    refine ⟨V', fun a ha => (g1 a ha).trans (f1 a ha), ?_⟩
    rw [← g2]
    have nx := fl_next (P := P) (r := r) (by omega)
    -- the step itself, by whether the row fits
    have st : ∀ p : Int, (p = 0 ∨ p = 1) → (p = 1 ↔ P r) → rX m_Rows_bestAsked m_Rows_bestAsked 13 [.ref 431, .int (iv (bsr (fl' P 125) P r).1), .int (iv (bsr (fl' P 125) P r).2.1), .int (iv (bsr (fl' P 125) P r).2.2), .int (iv (ln (fl' P r))), .int (iv r), dd, dd] [] (em V J z) = rX m_Rows_bestAsked m_Rows_bestAsked 62 [.ref 431, .int (iv (bsr (fl' P 125) P r).1), .int (iv (bsr (fl' P 125) P r).2.1), .int (iv (bsr (fl' P 125) P r).2.2), dd, .int (iv r), .int (iv p), dd] [.int (iv p), .int (iv (ln (fl' P r)))] (em V J z) := by
      intro p p01 hp
      by_cases h : ln (fl' P r) < ln (fl' P 125)
      · have hAr := hA (fl' P r).length (by omega)
        rw [← er] at hAr
        have hm := hL.2 _ (getD_mem (L := fl' P 125) (i := (fl' P r).length) (by omega))
        by_cases e : (fl' P 125).getD (fl' P r).length 0 = r
        · have : p = 1 := hp.mpr (nx.mpr ⟨by omega, e⟩)
          subst this
          (rw [q_Rows_bestAsked_13]; simp (disch := first | decide | omega | (simp (disch := first | decide | omega) only [sv_s, sv_o, ur_s, ur_e, ur_o]; omega)) only [↓reduceIte, iv_add, iv_sub, iv_mul, iv_neg, iv_ltT, iv_ltF, iv_leT, iv_leF, iv_eqT, iv_eqF, iv_div, iv_mod, ↓bnI_s, ↓bnV_s, ↓bnJ_s, ↓bnR_s, rt_e, rt_0, rt_bz, sv_s, sv_o, ur_s, ur_e, ur_o, bz_T, bz_F, nat_eqF, ↓gI_431_3 F, ↓gR_431_1 F, il_0, il_1, il_3, il_6, il_13, il_62, il_125, y_get (s_433 F) (by decide), rd_in, h3, hAr])
        · have : p = 0 := by
            rcases p01 with q | q
            · exact q
            · exact absurd (nx.mp (hp.mp q)).2 e
          subst this
          (rw [q_Rows_bestAsked_13]; simp (disch := first | decide | omega | (simp (disch := first | decide | omega) only [sv_s, sv_o, ur_s, ur_e, ur_o]; omega)) only [↓reduceIte, iv_add, iv_sub, iv_mul, iv_neg, iv_ltT, iv_ltF, iv_leT, iv_leF, iv_eqT, iv_eqF, iv_div, iv_mod, ↓bnI_s, ↓bnV_s, ↓bnJ_s, ↓bnR_s, rt_e, rt_0, rt_bz, sv_s, sv_o, ur_s, ur_e, ur_o, bz_T, bz_F, nat_eqF, ↓gI_431_3 F, ↓gR_431_1 F, il_0, il_1, il_3, il_6, il_13, il_62, il_125, y_get (s_433 F) (by decide), rd_in, h3, hAr])
      · have : p = 0 := by
          rcases p01 with q | q
          · exact q
          · have := (nx.mp (hp.mp q)).1
            omega
        subst this
        (rw [q_Rows_bestAsked_13]; simp (disch := first | decide | omega | (simp (disch := first | decide | omega) only [sv_s, sv_o, ur_s, ur_e, ur_o]; omega)) only [↓reduceIte, iv_add, iv_sub, iv_mul, iv_neg, iv_ltT, iv_ltF, iv_leT, iv_leF, iv_eqT, iv_eqF, iv_div, iv_mod, ↓bnI_s, ↓bnV_s, ↓bnJ_s, ↓bnR_s, rt_e, rt_0, rt_bz, sv_s, sv_o, ur_s, ur_e, ur_o, bz_T, bz_F, nat_eqF, ↓gI_431_3 F, ↓gR_431_1 F, il_0, il_1, il_3, il_6, il_13, il_62, il_125, h3])
    by_cases hP : P r
    · rw [st 1 (Or.inr rfl) ⟨fun _ => hP, fun _ => rfl⟩, fl_T hP, ln_app]
      by_cases h1 : mo (fl' P 125) r (fl' P 125).length < (bsr (fl' P 125) P r).2.1
      · have hw : w = mo (fl' P 125) r (fl' P 125).length := by omega
        rw [bsr_T (Or.inl h1), cp_T hP, ← hw]
        (rw [q_Rows_bestAsked_62]; simp (disch := first | decide | omega | (simp (disch := first | decide | omega) only [sv_s, sv_o, ur_s, ur_e, ur_o]; omega)) only [↓reduceIte, iv_add, iv_sub, iv_mul, iv_neg, iv_ltT, iv_ltF, iv_leT, iv_leF, iv_eqT, iv_eqF, iv_div, iv_mod, ↓bnI_s, ↓bnV_s, ↓bnJ_s, ↓bnR_s, rt_e, rt_0, rt_bz, sv_s, sv_o, ur_s, ur_e, ur_o, bz_T, bz_F, nat_eqF, il_0, il_1, il_13, il_62, f4, Int.natCast_add, Int.natCast_one])
      · by_cases h2 : mo (fl' P 125) r (fl' P 125).length = (bsr (fl' P 125) P r).2.1
        · have hw : w = (bsr (fl' P 125) P r).2.1 := by omega
          rw [hw] at f4
          rcases b3 with h3 | h3
          · rw [bsr_T (Or.inr ⟨h2, hP, h3⟩), cp_T hP, h3, h2]
            (rw [q_Rows_bestAsked_62]; simp (disch := first | decide | omega | (simp (disch := first | decide | omega) only [sv_s, sv_o, ur_s, ur_e, ur_o]; omega)) only [↓reduceIte, iv_add, iv_sub, iv_mul, iv_neg, iv_ltT, iv_ltF, iv_leT, iv_leF, iv_eqT, iv_eqF, iv_div, iv_mod, ↓bnI_s, ↓bnV_s, ↓bnJ_s, ↓bnR_s, rt_e, rt_0, rt_bz, sv_s, sv_o, ur_s, ur_e, ur_o, bz_T, bz_F, nat_eqF, il_0, il_1, il_13, il_62, f4, Int.natCast_add, Int.natCast_one])
          · rw [bsr_F (fun q => by omega), h3]
            (rw [q_Rows_bestAsked_62]; simp (disch := first | decide | omega | (simp (disch := first | decide | omega) only [sv_s, sv_o, ur_s, ur_e, ur_o]; omega)) only [↓reduceIte, iv_add, iv_sub, iv_mul, iv_neg, iv_ltT, iv_ltF, iv_leT, iv_leF, iv_eqT, iv_eqF, iv_div, iv_mod, ↓bnI_s, ↓bnV_s, ↓bnJ_s, ↓bnR_s, rt_e, rt_0, rt_bz, sv_s, sv_o, ur_s, ur_e, ur_o, bz_T, bz_F, nat_eqF, il_0, il_1, il_13, il_62, f4, Int.natCast_add, Int.natCast_one])
        · rw [bsr_F (fun q => by omega)]
          (rw [q_Rows_bestAsked_62]; simp (disch := first | decide | omega | (simp (disch := first | decide | omega) only [sv_s, sv_o, ur_s, ur_e, ur_o]; omega)) only [↓reduceIte, iv_add, iv_sub, iv_mul, iv_neg, iv_ltT, iv_ltF, iv_leT, iv_leF, iv_eqT, iv_eqF, iv_div, iv_mod, ↓bnI_s, ↓bnV_s, ↓bnJ_s, ↓bnR_s, rt_e, rt_0, rt_bz, sv_s, sv_o, ur_s, ur_e, ur_o, bz_T, bz_F, nat_eqF, il_0, il_1, il_13, il_62, f4, Int.natCast_add, Int.natCast_one])
    · rw [st 0 (Or.inl rfl) ⟨fun q => by omega, fun q => absurd q hP⟩, fl_F hP]
      by_cases h1 : mo (fl' P 125) r (fl' P 125).length < (bsr (fl' P 125) P r).2.1
      · have hw : w = mo (fl' P 125) r (fl' P 125).length := by omega
        rw [bsr_T (Or.inl h1), cp_F hP, ← hw]
        (rw [q_Rows_bestAsked_62]; simp (disch := first | decide | omega | (simp (disch := first | decide | omega) only [sv_s, sv_o, ur_s, ur_e, ur_o]; omega)) only [↓reduceIte, iv_add, iv_sub, iv_mul, iv_neg, iv_ltT, iv_ltF, iv_leT, iv_leF, iv_eqT, iv_eqF, iv_div, iv_mod, ↓bnI_s, ↓bnV_s, ↓bnJ_s, ↓bnR_s, rt_e, rt_0, rt_bz, sv_s, sv_o, ur_s, ur_e, ur_o, bz_T, bz_F, nat_eqF, il_0, il_1, il_13, il_62, f4, Int.natCast_add, Int.natCast_one])
        rw [Int.add_zero]
      · rw [bsr_F (fun q => by rcases q with q | q; exact h1 q; exact hP q.2.1)]
        by_cases h2 : w = (bsr (fl' P 125) P r).2.1
        · rw [h2] at f4
          (rw [q_Rows_bestAsked_62]; simp (disch := first | decide | omega | (simp (disch := first | decide | omega) only [sv_s, sv_o, ur_s, ur_e, ur_o]; omega)) only [↓reduceIte, iv_add, iv_sub, iv_mul, iv_neg, iv_ltT, iv_ltF, iv_leT, iv_leF, iv_eqT, iv_eqF, iv_div, iv_mod, ↓bnI_s, ↓bnV_s, ↓bnJ_s, ↓bnR_s, rt_e, rt_0, rt_bz, sv_s, sv_o, ur_s, ur_e, ur_o, bz_T, bz_F, nat_eqF, il_0, il_1, il_13, il_62, f4, Int.natCast_add, Int.natCast_one])
          rw [Int.add_zero]
        · (rw [q_Rows_bestAsked_62]; simp (disch := first | decide | omega | (simp (disch := first | decide | omega) only [sv_s, sv_o, ur_s, ur_e, ur_o]; omega)) only [↓reduceIte, iv_add, iv_sub, iv_mul, iv_neg, iv_ltT, iv_ltF, iv_leT, iv_leF, iv_eqT, iv_eqF, iv_div, iv_mod, ↓bnI_s, ↓bnV_s, ↓bnJ_s, ↓bnR_s, rt_e, rt_0, rt_bz, sv_s, sv_o, ur_s, ur_e, ur_o, bz_T, bz_F, nat_eqF, il_0, il_1, il_13, il_62, f4, Int.natCast_add, Int.natCast_one])
          rw [Int.add_zero]
end
