/-! WHAT TO ASK, in the model -/
section
variable {V J : Vm} {z : Zz}
theorem y_M_reset (F : Fix z) {a n : Int} : ∀ (m x : Nat) (V : Vm), x + m = 31 → (∀ k, 0 ≤ k → k < (x : Int) → V 449 k = 0) → ∃ V', (∀ a, a ≠ 449 → V' a = V a) ∧ (∀ k, 0 ≤ k → k < 31 → V' 449 k = 0) ∧ rX m_M_mostAlike m_M_mostAlike 2 [.ref 435, .int (iv a), .int (iv n), .int (iv x), dd, dd] [] (em V J z) = rX m_M_mostAlike m_M_mostAlike 26 [.ref 435, .int (iv a), .int (iv n), .int (iv 0), .int (iv 0), dd] [] (em V' J z) := by
  intro m
  induction m with
  | zero =>
    intro x V hx h
    refine ⟨V, fun _ _ => rfl, fun k h0 h1 => h k h0 (by omega), ?_⟩
    (rw [q_M_mostAlike_2]; simp (disch := first | decide | omega | (simp (disch := first | decide | omega) only [sv_s, sv_o, ur_s, ur_e, ur_o]; omega)) only [↓reduceIte, iv_add, iv_sub, iv_mul, iv_neg, iv_ltT, iv_ltF, iv_leT, iv_leF, iv_eqT, iv_eqF, iv_div, iv_mod, ↓bnI_s, ↓bnV_s, ↓bnJ_s, ↓bnR_s, rt_e, rt_0, rt_bz, sv_s, sv_o, ur_s, ur_e, ur_o, bz_T, bz_F, nat_eqF, ↓gR_435_37 F, ↓sI_436 F, ↓sI_437 F, ↓sI_438 F, ↓sI_439 F, ↓sI_440 F, ↓sI_441 F, ↓sI_443 F, ↓sI_444 F, ↓sI_445 F, ↓sI_446 F, ↓sI_447 F, ↓sI_448 F, ↓sI_449 F, ↓sI_450 F, il_0, il_1, il_2, il_11, il_26, il_31, il_37])
  | succ m ih =>
    intro x V hx h
    obtain ⟨V', f1, f2, f3⟩ := ih (x + 1) (sv V 449 x 0) (by omega) (fun k h0 h1 => by
      rw [sv_s]
      by_cases q : k = x
      · rw [q, ur_s]
      · rw [ur_o q]; exact h k h0 (by omega))
    refine ⟨V', fun a ha => (f1 a ha).trans (sv_o ha), f2, ?_⟩
    rw [← f3]
    (rw [q_M_mostAlike_2]; simp (disch := first | decide | omega | (simp (disch := first | decide | omega) only [sv_s, sv_o, ur_s, ur_e, ur_o]; omega)) only [↓reduceIte, iv_add, iv_sub, iv_mul, iv_neg, iv_ltT, iv_ltF, iv_leT, iv_leF, iv_eqT, iv_eqF, iv_div, iv_mod, ↓bnI_s, ↓bnV_s, ↓bnJ_s, ↓bnR_s, rt_e, rt_0, rt_bz, sv_s, sv_o, ur_s, ur_e, ur_o, bz_T, bz_F, nat_eqF, ↓gR_435_37 F, ↓sI_436 F, ↓sI_437 F, ↓sI_438 F, ↓sI_439 F, ↓sI_440 F, ↓sI_441 F, ↓sI_443 F, ↓sI_444 F, ↓sI_445 F, ↓sI_446 F, ↓sI_447 F, ↓sI_448 F, ↓sI_449 F, ↓sI_450 F, il_0, il_1, il_2, il_11, il_26, il_31, il_37, Int.natCast_add, Int.natCast_one])
theorem y_M_alike_l (F : Fix z) {L : List Nat} (hL : Lst L) {r : Nat} (hr : r < 125) : ∀ (m i : Nat) (V : Vm), Arr (V 448) L → i + m = L.length → (∀ k, 0 ≤ k → k < 31 → V 449 k = oc L r i k) → ∃ V', (∀ a, a ≠ 449 → V' a = V a) ∧ rX m_M_mostAlike m_M_mostAlike 26 [.ref 435, .int (iv r), .int (iv (ln L)), .int (iv (mo L r i)), .int (iv i), dd] [] (em V J z) = some (.int (iv (mo L r L.length)), em V' J z) := by
  intro m
  induction m with
  | zero =>
    intro i V hA hi ho
    have e : i = L.length := by omega
    have el : ln L = (L.length : Int) := rfl
    have l125 := hL.1
    refine ⟨V, fun _ _ => rfl, ?_⟩
    rw [← e]
    (rw [q_M_mostAlike_26]; simp (disch := first | decide | omega | (simp (disch := first | decide | omega) only [sv_s, sv_o, ur_s, ur_e, ur_o]; omega)) only [↓reduceIte, iv_add, iv_sub, iv_mul, iv_neg, iv_ltT, iv_ltF, iv_leT, iv_leF, iv_eqT, iv_eqF, iv_div, iv_mod, ↓bnI_s, ↓bnV_s, ↓bnJ_s, ↓bnR_s, rt_e, rt_0, rt_bz, sv_s, sv_o, ur_s, ur_e, ur_o, bz_T, bz_F, nat_eqF, ↓gR_435_36 F, ↓gR_435_37 F, ↓lI_436 F, ↓lI_437 F, ↓lI_438 F, ↓lI_439 F, ↓lI_440 F, ↓lI_441 F, ↓lI_443 F, ↓lI_444 F, ↓lI_445 F, ↓lI_446 F, ↓lI_447 F, ↓lI_448 F, ↓lI_449 F, ↓lI_450 F, ↓sI_436 F, ↓sI_437 F, ↓sI_438 F, ↓sI_439 F, ↓sI_440 F, ↓sI_441 F, ↓sI_443 F, ↓sI_444 F, ↓sI_445 F, ↓sI_446 F, ↓sI_447 F, ↓sI_448 F, ↓sI_449 F, ↓sI_450 F, il_0, il_1, il_11, il_26, il_36, il_37])
  | succ m ih =>
    intro i V hA hi ho
    have el : ln L = (L.length : Int) := rfl
    have l125 := hL.1
    have mr := mo_rg L r i
    have hm := hL.2 _ (getD_mem (L := L) (i := i) (by omega))
    have hAi := hA i (by omega)
    have rep := y_answerOf (h := em V J z) (r := r) (q := L.getD i 0) hr hm
    have rg := an_rg hr hm
    have hoi := ho _ rg.1 (by omega)
    have og := oc_rg L r i (an r (L.getD i 0))
    obtain ⟨V', f1, f4⟩ := ih (i + 1) (sv V 449 (an r (L.getD i 0)) (oc L r i (an r (L.getD i 0)) + 1)) (by rw [sv_o (by decide)]; exact hA) (by omega) (fun k h0 h1 => by
      rw [sv_s]
      show _ = ur (oc L r i) (an r (L.getD i 0)) (oc L r i (an r (L.getD i 0)) + 1) k
      by_cases e : k = an r (L.getD i 0)
      · rw [e, ur_s, ur_s]
      · rw [ur_o e, ur_o e]; exact ho k h0 h1)
    refine ⟨V', fun a ha => (f1 a ha).trans (sv_o ha), ?_⟩
    rw [← f4]
    show _ = rX m_M_mostAlike m_M_mostAlike 26 [.ref 435, .int (iv r), .int (iv (ln L)), .int (iv (max (mo L r i) (oc L r i (an r (L.getD i 0)) + 1))), .int (iv ((i + 1 : Nat) : Int)), dd] [] _
    generalize L.getD i 0 = l at *
    generalize an r l = v at *
    generalize hov : oc L r i v = o at *
    by_cases q : mo L r i < o + 1
    · rw [Int.max_eq_right (by omega)]
      (rw [q_M_mostAlike_26]; simp (disch := first | decide | omega | (simp (disch := first | decide | omega) only [sv_s, sv_o, ur_s, ur_e, ur_o]; omega)) only [↓reduceIte, iv_add, iv_sub, iv_mul, iv_neg, iv_ltT, iv_ltF, iv_leT, iv_leF, iv_eqT, iv_eqF, iv_div, iv_mod, ↓bnI_s, ↓bnV_s, ↓bnJ_s, ↓bnR_s, rt_e, rt_0, rt_bz, sv_s, sv_o, ur_s, ur_e, ur_o, bz_T, bz_F, nat_eqF, ↓gR_435_36 F, ↓gR_435_37 F, ↓lI_436 F, ↓lI_437 F, ↓lI_438 F, ↓lI_439 F, ↓lI_440 F, ↓lI_441 F, ↓lI_443 F, ↓lI_444 F, ↓lI_445 F, ↓lI_446 F, ↓lI_447 F, ↓lI_448 F, ↓lI_449 F, ↓lI_450 F, ↓sI_436 F, ↓sI_437 F, ↓sI_438 F, ↓sI_439 F, ↓sI_440 F, ↓sI_441 F, ↓sI_443 F, ↓sI_444 F, ↓sI_445 F, ↓sI_446 F, ↓sI_447 F, ↓sI_448 F, ↓sI_449 F, ↓sI_450 F, il_0, il_1, il_11, il_26, il_36, il_37, hAi, rep, hoi, Int.natCast_add, Int.natCast_one])
    · rw [Int.max_eq_left (by omega)]
      (rw [q_M_mostAlike_26]; simp (disch := first | decide | omega | (simp (disch := first | decide | omega) only [sv_s, sv_o, ur_s, ur_e, ur_o]; omega)) only [↓reduceIte, iv_add, iv_sub, iv_mul, iv_neg, iv_ltT, iv_ltF, iv_leT, iv_leF, iv_eqT, iv_eqF, iv_div, iv_mod, ↓bnI_s, ↓bnV_s, ↓bnJ_s, ↓bnR_s, rt_e, rt_0, rt_bz, sv_s, sv_o, ur_s, ur_e, ur_o, bz_T, bz_F, nat_eqF, ↓gR_435_36 F, ↓gR_435_37 F, ↓lI_436 F, ↓lI_437 F, ↓lI_438 F, ↓lI_439 F, ↓lI_440 F, ↓lI_441 F, ↓lI_443 F, ↓lI_444 F, ↓lI_445 F, ↓lI_446 F, ↓lI_447 F, ↓lI_448 F, ↓lI_449 F, ↓lI_450 F, ↓sI_436 F, ↓sI_437 F, ↓sI_438 F, ↓sI_439 F, ↓sI_440 F, ↓sI_441 F, ↓sI_443 F, ↓sI_444 F, ↓sI_445 F, ↓sI_446 F, ↓sI_447 F, ↓sI_448 F, ↓sI_449 F, ↓sI_450 F, il_0, il_1, il_11, il_26, il_36, il_37, hAi, rep, hoi, Int.natCast_add, Int.natCast_one])
theorem y_M_alike (F : Fix z) {L : List Nat} (hL : Lst L) (hA : Arr (V 448) L) {r : Nat} (hr : r < 125) : ∃ V', (∀ a, a ≠ 449 → V' a = V a) ∧ cA m_M_mostAlike [.ref 435, .int (iv r), .int (iv (ln L))] (em V J z) = some (.int (iv (mo L r L.length)), em V' J z) := by
  obtain ⟨V1, g1, g2, g3⟩ := y_M_reset (J := J) (a := r) (n := ln L) F 31 0 V (by omega) (fun k h0 h1 => absurd h1 (by omega))
  obtain ⟨V', f1, f4⟩ := y_M_alike_l (J := J) F hL hr L.length 0 V1 (by rw [g1 448 (by decide)]; exact hA) (by omega) (fun k h0 h1 => g2 k h0 h1)
  refine ⟨V', fun a ha => (f1 a ha).trans (g1 a ha), ?_⟩
  rw [← f4]
  rw [q_M_mostAlike, gd_435 F, il_0]
  exact g3
theorem y_isFitting_l (F : Fix z) {L : List Nat} (hL : Lst L) (hA : Arr (V 448) L) {r : Nat} (hr : r < 125) : ∀ (m i : Nat), i + m = L.length → ∃ b : Int, (b = 0 ∨ b = 1) ∧ (b = 1 ↔ ∃ j, i ≤ j ∧ j < L.length ∧ L.getD j 0 = r) ∧ rX m_M_isFitting m_M_isFitting 2 [.ref 435, .int (iv r), .int (iv (ln L)), .int (iv i)] [] (em V J z) = some (.int (iv b), em V J z) := by
  intro m
  induction m with
  | zero =>
    intro i hi
    have el : ln L = (L.length : Int) := rfl
    have l125 := hL.1
    refine ⟨0, Or.inl rfl, ⟨fun h => absurd h (by decide), fun ⟨j, j1, j2, _⟩ => absurd j2 (by omega)⟩, ?_⟩
    (rw [q_M_isFitting_2]; simp (disch := first | decide | omega | (simp (disch := first | decide | omega) only [sv_s, sv_o, ur_s, ur_e, ur_o]; omega)) only [↓reduceIte, iv_add, iv_sub, iv_mul, iv_neg, iv_ltT, iv_ltF, iv_leT, iv_leF, iv_eqT, iv_eqF, iv_div, iv_mod, ↓bnI_s, ↓bnV_s, ↓bnJ_s, ↓bnR_s, rt_e, rt_0, rt_bz, sv_s, sv_o, ur_s, ur_e, ur_o, bz_T, bz_F, nat_eqF, ↓gR_435_36 F, ↓lI_436 F, ↓lI_437 F, ↓lI_438 F, ↓lI_439 F, ↓lI_440 F, ↓lI_441 F, ↓lI_443 F, ↓lI_444 F, ↓lI_445 F, ↓lI_446 F, ↓lI_447 F, ↓lI_448 F, ↓lI_449 F, ↓lI_450 F, il_0, il_1, il_2, il_11, il_36])
  | succ m ih =>
    intro i hi
    have el : ln L = (L.length : Int) := rfl
    have l125 := hL.1
    have hm := hL.2 _ (getD_mem (L := L) (i := i) (by omega))
    have hAi := hA i (by omega)
    by_cases e : L.getD i 0 = r
    · refine ⟨1, Or.inr rfl, ⟨fun _ => ⟨i, by omega, by omega, e⟩, fun _ => rfl⟩, ?_⟩
      (rw [q_M_isFitting_2]; simp (disch := first | decide | omega | (simp (disch := first | decide | omega) only [sv_s, sv_o, ur_s, ur_e, ur_o]; omega)) only [↓reduceIte, iv_add, iv_sub, iv_mul, iv_neg, iv_ltT, iv_ltF, iv_leT, iv_leF, iv_eqT, iv_eqF, iv_div, iv_mod, ↓bnI_s, ↓bnV_s, ↓bnJ_s, ↓bnR_s, rt_e, rt_0, rt_bz, sv_s, sv_o, ur_s, ur_e, ur_o, bz_T, bz_F, nat_eqF, ↓gR_435_36 F, ↓lI_436 F, ↓lI_437 F, ↓lI_438 F, ↓lI_439 F, ↓lI_440 F, ↓lI_441 F, ↓lI_443 F, ↓lI_444 F, ↓lI_445 F, ↓lI_446 F, ↓lI_447 F, ↓lI_448 F, ↓lI_449 F, ↓lI_450 F, il_0, il_1, il_2, il_11, il_36, hAi])
    · obtain ⟨b, b1, b2, b3⟩ := ih (i + 1) (by omega)
      refine ⟨b, b1, ?_, ?_⟩
      · rw [b2]
        constructor
        · rintro ⟨j, j1, j2, j3⟩; exact ⟨j, by omega, j2, j3⟩
        · rintro ⟨j, j1, j2, j3⟩
          refine ⟨j, ?_, j2, j3⟩
          by_cases q : j = i
          · rw [q] at j3; exact absurd j3 e
          · omega
      · rw [← b3]
        (rw [q_M_isFitting_2]; simp (disch := first | decide | omega | (simp (disch := first | decide | omega) only [sv_s, sv_o, ur_s, ur_e, ur_o]; omega)) only [↓reduceIte, iv_add, iv_sub, iv_mul, iv_neg, iv_ltT, iv_ltF, iv_leT, iv_leF, iv_eqT, iv_eqF, iv_div, iv_mod, ↓bnI_s, ↓bnV_s, ↓bnJ_s, ↓bnR_s, rt_e, rt_0, rt_bz, sv_s, sv_o, ur_s, ur_e, ur_o, bz_T, bz_F, nat_eqF, ↓gR_435_36 F, ↓lI_436 F, ↓lI_437 F, ↓lI_438 F, ↓lI_439 F, ↓lI_440 F, ↓lI_441 F, ↓lI_443 F, ↓lI_444 F, ↓lI_445 F, ↓lI_446 F, ↓lI_447 F, ↓lI_448 F, ↓lI_449 F, ↓lI_450 F, il_0, il_1, il_2, il_11, il_36, hAi, Int.natCast_add, Int.natCast_one])
theorem fl_in {P : Nat → Prop} {r : Nat} (hr : r < 125) : (P r ↔ ∃ j, 0 ≤ j ∧ j < (fl' P 125).length ∧ (fl' P 125).getD j 0 = r) := by
  constructor
  · intro p
    have := (fl_next hr).mp p
    exact ⟨_, Nat.zero_le _, this.1, this.2⟩
  · rintro ⟨j, -, j1, j2⟩
    have := fl_mem P 125 _ (getD_mem j1)
    rw [j2] at this
    exact this.2
theorem y_isFitting (F : Fix z) {P : Nat → Prop} (hA : Arr (V 448) (fl' P 125)) {r : Nat} (hr : r < 125) : ∃ b : Int, (b = 0 ∨ b = 1) ∧ (b = 1 ↔ P r) ∧ cA m_M_isFitting [.ref 435, .int (iv r), .int (iv (ln (fl' P 125)))] (em V J z) = some (.int (iv b), em V J z) := by
  obtain ⟨b, b1, b2, b3⟩ := y_isFitting_l (J := J) F (fl_lst P) hA hr (fl' P 125).length 0 (by omega)
  refine ⟨b, b1, b2.trans (fl_in hr).symm, ?_⟩
  rw [← b3, q_M_isFitting, gd_435 F, il_0]
  rfl
/-- the model's least at a row -/
noncomputable def lea (L : List Nat) (P : Nat → Prop) (r : Nat) : Int := if r = 0 then 1000000 else 2 * (bsr L P r).2.1 + (1 - (bsr L P r).2.2)
theorem y_M_ask_l (F : Fix z) {P : Nat → Prop} : ∀ (m r : Nat) (V : Vm), Arr (V 448) (fl' P 125) → r + m = 125 → ∃ V', (∀ a, a ≠ 449 → V' a = V a) ∧ rX m_M_ask m_M_ask 21 [.ref 435, .int (iv (ln (fl' P 125))), .int (iv (bsr (fl' P 125) P r).1), .int (iv (lea (fl' P 125) P r)), .int (iv r), dd] [] (em V J z) = some (.int (iv (bsr (fl' P 125) P 125).1), em V' J z) := by
  intro m
  induction m with
  | zero =>
    intro r V hA hr
    have e : r = 125 := by omega
    subst e
    refine ⟨V, fun _ _ => rfl, ?_⟩
    (rw [q_M_ask_21]; simp (disch := first | decide | omega | (simp (disch := first | decide | omega) only [sv_s, sv_o, ur_s, ur_e, ur_o]; omega)) only [↓reduceIte, iv_add, iv_sub, iv_mul, iv_neg, iv_ltT, iv_ltF, iv_leT, iv_leF, iv_eqT, iv_eqF, iv_div, iv_mod, ↓bnI_s, ↓bnV_s, ↓bnJ_s, ↓bnR_s, rt_e, rt_0, rt_bz, sv_s, sv_o, ur_s, ur_e, ur_o, bz_T, bz_F, nat_eqF, il_0, il_1, il_2, il_21, il_52, il_125])
  | succ m ih =>
    intro r V hA hr
    have hL := fl_lst P
    obtain ⟨b1, b2, b3, b4⟩ := bsr_rg (L := fl' P 125) (P := P) hL.1 r
    have l1 := ln_fl P 125
    have mr := mo_rg (fl' P 125) r (fl' P 125).length
    have l5 := hL.1
    obtain ⟨V1, f1, f4⟩ := y_M_alike (J := J) F hL hA (r := r) (by omega)
    have hA1 : Arr (V1 448) (fl' P 125) := by rw [f1 448 (by decide)]; exact hA
    obtain ⟨b, c1, c2, c3⟩ := y_isFitting (J := J) F hA1 (r := r) (by omega)
    obtain ⟨V', g1, g2⟩ := ih (r + 1) V1 hA1 (by omega)
    refine ⟨V', fun a ha => (g1 a ha).trans (f1 a ha), ?_⟩
    rw [← g2]
    have st : rX m_M_ask m_M_ask 21 [.ref 435, .int (iv (ln (fl' P 125))), .int (iv (bsr (fl' P 125) P r).1), .int (iv (lea (fl' P 125) P r)), .int (iv r), dd] [] (em V J z) = rX m_M_ask m_M_ask 52 [.ref 435, .int (iv (ln (fl' P 125))), .int (iv (bsr (fl' P 125) P r).1), .int (iv (lea (fl' P 125) P r)), .int (iv r), dd] [.int (iv (1 - b)), .int (iv (2 * mo (fl' P 125) r (fl' P 125).length))] (em V1 J z) := by
      rcases c1 with rfl | rfl
      · (rw [q_M_ask_21]; simp (disch := first | decide | omega | (simp (disch := first | decide | omega) only [sv_s, sv_o, ur_s, ur_e, ur_o]; omega)) only [↓reduceIte, iv_add, iv_sub, iv_mul, iv_neg, iv_ltT, iv_ltF, iv_leT, iv_leF, iv_eqT, iv_eqF, iv_div, iv_mod, ↓bnI_s, ↓bnV_s, ↓bnJ_s, ↓bnR_s, rt_e, rt_0, rt_bz, sv_s, sv_o, ur_s, ur_e, ur_o, bz_T, bz_F, nat_eqF, il_0, il_1, il_2, il_21, il_52, il_125, f4, c3])
        rfl
      · (rw [q_M_ask_21]; simp (disch := first | decide | omega | (simp (disch := first | decide | omega) only [sv_s, sv_o, ur_s, ur_e, ur_o]; omega)) only [↓reduceIte, iv_add, iv_sub, iv_mul, iv_neg, iv_ltT, iv_ltF, iv_leT, iv_leF, iv_eqT, iv_eqF, iv_div, iv_mod, ↓bnI_s, ↓bnV_s, ↓bnJ_s, ↓bnR_s, rt_e, rt_0, rt_bz, sv_s, sv_o, ur_s, ur_e, ur_o, bz_T, bz_F, nat_eqF, il_0, il_1, il_2, il_21, il_52, il_125, f4, c3])
        rfl
    rw [st]
    -- what is least then
    have le : lea (fl' P 125) P (r + 1) = 2 * (bsr (fl' P 125) P (r + 1)).2.1 + (1 - (bsr (fl' P 125) P (r + 1)).2.2) := by unfold lea; rw [if_neg (by omega)]
    by_cases h : mo (fl' P 125) r (fl' P 125).length < (bsr (fl' P 125) P r).2.1 ∨ (mo (fl' P 125) r (fl' P 125).length = (bsr (fl' P 125) P r).2.1 ∧ P r ∧ (bsr (fl' P 125) P r).2.2 = 0)
    · rw [le, bsr_T h]
      have hb : @ite Int (P r) (Classical.propDecidable _) 1 0 = b := by
        by_cases p : P r
        · rw [cp_T p, c2.mpr p]
        · rw [cp_F p]
          rcases c1 with q | q
          · exact q.symm
          · exact absurd (c2.mp q) p
      show _ = rX m_M_ask m_M_ask 21 [.ref 435, .int (iv (ln (fl' P 125))), .int (iv (r : Int)), .int (iv (2 * mo (fl' P 125) r (fl' P 125).length + (1 - @ite Int (P r) (Classical.propDecidable _) 1 0))), .int (iv ((r + 1 : Nat) : Int)), dd] [] (em V1 J z)
      rw [hb]
      have hlt : 2 * mo (fl' P 125) r (fl' P 125).length + (1 - b) < lea (fl' P 125) P r ∧ lea (fl' P 125) P r ≤ 1000000 := by
        unfold lea
        split
        · omega
        · rcases h with h | ⟨h, p, h2⟩
          · omega
          · have := c2.mpr p; omega
      (rw [q_M_ask_52]; simp (disch := first | decide | omega | (simp (disch := first | decide | omega) only [sv_s, sv_o, ur_s, ur_e, ur_o]; omega)) only [↓reduceIte, iv_add, iv_sub, iv_mul, iv_neg, iv_ltT, iv_ltF, iv_leT, iv_leF, iv_eqT, iv_eqF, iv_div, iv_mod, ↓bnI_s, ↓bnV_s, ↓bnJ_s, ↓bnR_s, rt_e, rt_0, rt_bz, sv_s, sv_o, ur_s, ur_e, ur_o, bz_T, bz_F, nat_eqF, il_0, il_1, il_21, il_52, Int.natCast_add, Int.natCast_one])
    · rw [le, bsr_F h]
      have r0 : r ≠ 0 := fun e => h (Or.inl (by subst e; show mo (fl' P 125) 0 _ < 126; omega))
      have el : lea (fl' P 125) P r = 2 * (bsr (fl' P 125) P r).2.1 + (1 - (bsr (fl' P 125) P r).2.2) := by unfold lea; rw [if_neg r0]
      have hge : lea (fl' P 125) P r ≤ 2 * mo (fl' P 125) r (fl' P 125).length + (1 - b) := by
        rw [el]
        by_cases q : mo (fl' P 125) r (fl' P 125).length = (bsr (fl' P 125) P r).2.1
        · by_cases p : P r
          · have : (bsr (fl' P 125) P r).2.2 ≠ 0 := fun e => h (Or.inr ⟨q, p, e⟩)
            omega
          · have : b ≠ 1 := fun e => p (c2.mp e)
            omega
        · have : ¬ mo (fl' P 125) r (fl' P 125).length < (bsr (fl' P 125) P r).2.1 := fun e => h (Or.inl e)
          omega
      rw [← el]
      have lo : -1000 ≤ lea (fl' P 125) P r := by omega
      (rw [q_M_ask_52]; simp (disch := first | decide | omega | (simp (disch := first | decide | omega) only [sv_s, sv_o, ur_s, ur_e, ur_o]; omega)) only [↓reduceIte, iv_add, iv_sub, iv_mul, iv_neg, iv_ltT, iv_ltF, iv_leT, iv_leF, iv_eqT, iv_eqF, iv_div, iv_mod, ↓bnI_s, ↓bnV_s, ↓bnJ_s, ↓bnR_s, rt_e, rt_0, rt_bz, sv_s, sv_o, ur_s, ur_e, ur_o, bz_T, bz_F, nat_eqF, il_0, il_1, il_21, il_52, Int.natCast_add, Int.natCast_one])
theorem p_ask (F : Fix z) (M : Mrk V) (hG : Gue V 9 (V 436)) : Pq V J z (fun h => cA m_X_ask [.ref 8] h) (fun h => cA m_M_ask [.ref 435] h) := by
  obtain ⟨g1, g2⟩ := hG.gr
  obtain ⟨V1, f1, f2, f3, f4⟩ := y_sift (J := J) F M g2 g1
  have c1 : core V1 = core V := core_2 f1 (fun k => scr_T (by omega)) (fun k => scr_T (by omega))
  have len := ln_fl (fitP (V 22) (V 23) (V 436 4)) 125
  by_cases h : 1 < ln (fl' (fitP (V 22) (V 23) (V 436 4)) 125)
  · obtain ⟨V2, n1, n2⟩ := y_best_l (J := J) F (P := fitP (V 22) (V 23) (V 436 4)) 125 0 V1 (fun r hr => by rw [f1 432 (by decide) (by decide)]; exact M r hr) f2 f3 (by omega)
    have c2 : core V2 = core V1 := core_2 (fun a ha _ => n1 a ha) (fun k => scr_T (by omega)) (fun k => scr_T (a := 434) (by omega))
    obtain ⟨V3, k1, k2, k3⟩ := y_lay (V := V2) (J := J) F g2 (hG.mg ((n1 436 (by decide)).trans (f1 436 (by decide) (by decide))))
    have c3 : core V3 = core V2 := core_2 (fun a ha _ => k1 a ha) (fun k => scr_T (by omega)) (fun k => scr_T (a := 448) (by omega))
    obtain ⟨V4, m1, m2⟩ := y_M_ask_l (J := J) F (P := fitP (V 22) (V 23) (V 436 4)) 125 0 V3 k2 (by omega)
    have c4 : core V4 = core V3 := core_2 (fun a ha _ => m1 a ha) (fun k => scr_T (by omega)) (fun k => scr_T (a := 449) (by omega))
    have n2' : cA m_Rows_bestAsked [.ref 431] (em V1 J z) = some (.int (iv (bsr (fl' (fitP (V 22) (V 23) (V 436 4)) 125) (fitP (V 22) (V 23) (V 436 4)) 125).1), em V2 J z) := by
      rw [← n2]
      simp (disch := first | decide | omega | (simp (disch := first | decide | omega) only [sv_s, sv_o, ur_s, ur_e, ur_o]; omega)) only [↓reduceIte, iv_add, iv_sub, iv_mul, iv_neg, iv_ltT, iv_ltF, iv_leT, iv_leF, iv_eqT, iv_eqF, iv_div, iv_mod, ↓bnI_s, ↓bnV_s, ↓bnJ_s, ↓bnR_s, rt_e, rt_0, rt_bz, sv_s, sv_o, ur_s, ur_e, ur_o, bz_T, bz_F, nat_eqF, ↓q_Rows_bestAsked, ↓gd_431 F, il_0, il_1, il_13, il_22, il_126]
      rfl
    have m2' : rX m_M_ask m_M_ask 21 [.ref 435, .int (iv (ln (fl' (fitP (V 22) (V 23) (V 436 4)) 125))), .int (iv (-1)), .int (iv 1000000), .int (iv 0), dd] [] (em V3 J z) = some (.int (iv (bsr (fl' (fitP (V 22) (V 23) (V 436 4)) 125) (fitP (V 22) (V 23) (V 436 4)) 125).1), em V4 J z) := m2
    exact ⟨_, V2, J, V4, J, (by simp (disch := first | decide | omega | (simp (disch := first | decide | omega) only [sv_s, sv_o, ur_s, ur_e, ur_o]; omega)) only [↓reduceIte, iv_add, iv_sub, iv_mul, iv_neg, iv_ltT, iv_ltF, iv_leT, iv_leF, iv_eqT, iv_eqF, iv_div, iv_mod, ↓bnI_s, ↓bnV_s, ↓bnJ_s, ↓bnR_s, rt_e, rt_0, rt_bz, sv_s, sv_o, ur_s, ur_e, ur_o, bz_T, bz_F, nat_eqF, ↓q_X_ask, ↓gR_8_8 F, ↓gR_8_0 F, ↓gR_9_6 F, ↓gI_431_3 F, ↓gd_8 F, il_0, il_1, il_2, il_3, il_6, il_8, il_10, il_26, f4, f2, n2']; rfl), c2.trans c1, (by simp (disch := first | decide | omega | (simp (disch := first | decide | omega) only [sv_s, sv_o, ur_s, ur_e, ur_o]; omega)) only [↓reduceIte, iv_add, iv_sub, iv_mul, iv_neg, iv_ltT, iv_ltF, iv_leT, iv_leF, iv_eqT, iv_eqF, iv_div, iv_mod, ↓bnI_s, ↓bnV_s, ↓bnJ_s, ↓bnR_s, rt_e, rt_0, rt_bz, sv_s, sv_o, ur_s, ur_e, ur_o, bz_T, bz_F, nat_eqF, ↓q_M_ask, ↓gd_435 F, il_0, il_1, il_2, il_21, il_27, il_1000000, k3, m2']), c4.trans (c3.trans (c2.trans c1))⟩
  · obtain ⟨V3, k1, k2, k3⟩ := y_lay (V := V1) (J := J) F g2 (hG.mg (f1 436 (by decide) (by decide)))
    have c3 : core V3 = core V1 := core_2 (fun a ha _ => k1 a ha) (fun k => scr_T (by omega)) (fun k => scr_T (a := 448) (by omega))
    exact ⟨-1, V1, J, V3, J, (by simp (disch := first | decide | omega | (simp (disch := first | decide | omega) only [sv_s, sv_o, ur_s, ur_e, ur_o]; omega)) only [↓reduceIte, iv_add, iv_sub, iv_mul, iv_neg, iv_ltT, iv_ltF, iv_leT, iv_leF, iv_eqT, iv_eqF, iv_div, iv_mod, ↓bnI_s, ↓bnV_s, ↓bnJ_s, ↓bnR_s, rt_e, rt_0, rt_bz, sv_s, sv_o, ur_s, ur_e, ur_o, bz_T, bz_F, nat_eqF, ↓q_X_ask, ↓gR_8_8 F, ↓gR_8_0 F, ↓gR_9_6 F, ↓gI_431_3 F, ↓gd_8 F, il_0, il_1, il_2, il_3, il_6, il_8, il_10, il_26, f4, f2]), c1, (by simp (disch := first | decide | omega | (simp (disch := first | decide | omega) only [sv_s, sv_o, ur_s, ur_e, ur_o]; omega)) only [↓reduceIte, iv_add, iv_sub, iv_mul, iv_neg, iv_ltT, iv_ltF, iv_leT, iv_leF, iv_eqT, iv_eqF, iv_div, iv_mod, ↓bnI_s, ↓bnV_s, ↓bnJ_s, ↓bnR_s, rt_e, rt_0, rt_bz, sv_s, sv_o, ur_s, ur_e, ur_o, bz_T, bz_F, nat_eqF, ↓q_M_ask, ↓gd_435 F, il_0, il_1, il_2, il_21, il_27, il_1000000, k3]), c3.trans c1⟩
end
