/-! THE READING: clauses, in the model -/
def srt (k : Int) : Int := if k = 0 then 0 else if k = 1 then 1 else if k = 2 then 2 else if k = 4 then 3 else if k = 5 then 4 else if k = 7 then 5 else if k = 8 then 6 else if k = 10 then 7 else -1
theorem bl_1 {h : Mem} {f : Int64 → Mem → Rs} : bnJ (cA m_M_w5 [.int 98, .int 101, .int 97, .int 114, .int 115] h) f = f (jv (wn 1)) h := (congrArg (fun r => bnJ r f) (lw_1 (h := h))).trans rfl
theorem bl_2 {h : Mem} {f : Int64 → Mem → Rs} : bnJ (cA m_M_w3 [.int 107, .int 105, .int 110] h) f = f (jv (wn 2)) h := (congrArg (fun r => bnJ r f) (lw_2 (h := h))).trans rfl
theorem bl_4 {h : Mem} {f : Int64 → Mem → Rs} : bnJ (cA m_M_w5 [.int 114, .int 101, .int 97, .int 99, .int 104] h) f = f (jv (wn 4)) h := (congrArg (fun r => bnJ r f) (lw_4 (h := h))).trans rfl
theorem bl_5 {h : Mem} {f : Int64 → Mem → Rs} : bnJ (cA m_M_w4 [.int 100, .int 111, .int 119, .int 110] h) f = f (jv (wn 5)) h := (congrArg (fun r => bnJ r f) (lw_5 (h := h))).trans rfl
theorem bl_7 {h : Mem} {f : Int64 → Mem → Rs} : bnJ (cA m_M_w5 [.int 115, .int 116, .int 114, .int 97, .int 112] h) f = f (jv (wn 7)) h := (congrArg (fun r => bnJ r f) (lw_7 (h := h))).trans rfl
theorem bl_8 {h : Mem} {f : Int64 → Mem → Rs} : bnJ (cA m_M_w4 [.int 115, .int 119, .int 97, .int 112] h) f = f (jv (wn 8)) h := (congrArg (fun r => bnJ r f) (lw_8 (h := h))).trans rfl
theorem bl_10 {h : Mem} {f : Int64 → Mem → Rs} : bnJ (cA m_M_w6 [.int 100, .int 105, .int 110, .int 110, .int 101, .int 114] h) f = f (jv (wn 10)) h := (congrArg (fun r => bnJ r f) (lw_10 (h := h))).trans rfl
section
variable {U U2 K K2 : Vm} {z : Zz} {s : Sm} {b : Int → Int} {i j n w on k x lo hi p e v σ : Int}
theorem y_isReaches (F : Fix z) (B : B2 U b n) (T : MT U K b p k e v) (hp : 0 ≤ p ∧ e ≤ n) : cA m_M_isReaches [.ref 435] (em U K z) = some (.int (iv (bz (k = 0))), em U K z) := by
  obtain ⟨h7, h8, t⟩ := T
  have bn := B.2.2.1
  have no : ∀ y : Int, U 435 9 = y → (y < 2 ∨ 2 < y) → (0 ≤ y ∧ y ≤ 100) → k ≠ 0 → cA m_M_isReaches [.ref 435] (em U K z) = some (.int (iv (bz (k = 0))), em U K z) := fun y h1 h2 h3 h4 => by
    rw [bz_F h4]
    simp (disch := first | decide | omega | (simp (disch := first | decide | omega) only [sv_s, sv_o, ur_s, ur_e, ur_o]; omega)) only [↓reduceIte, iv_add, iv_sub, iv_mul, iv_neg, iv_ltT, iv_ltF, iv_leT, iv_leF, iv_eqT, iv_eqF, iv_div, iv_mod, ↓bnI_s, ↓bnV_s, ↓bnJ_s, ↓bnR_s, rt_e, rt_0, rt_bz, sv_s, sv_o, ur_s, ur_e, ur_o, bz_T, bz_F, nat_eqF, Nat.reduceAdd, ↓q_M_isReaches, ↓gI_435_9 F, ↓gI_435_7 F, ↓gI_435_8 F, ↓gd_435 F, il_0, il_1, il_2, il_3, il_4, il_5, il_6, il_7, il_8, il_9, il_11, il_27, il_97, il_99, il_101, il_104, il_114, il_115, h1]
  rcases t with ⟨t1, t2⟩ | ⟨t1, t2, t3⟩ | ⟨t1, t2, t3, t4, t5⟩ | t1
  · exact no 0 t2 (by omega) (by omega) (by omega)
  · exact no 1 t2 (by omega) (by omega) (by omega)
  · have is := t2.is (i := 0) (by decide)
    by_cases l7 : e - p = 7
    · have m7 : (e - p).toNat = 7 := by omega
      rw [m7] at is t3
      have w7 : fwl b p 7 = [b p, b (p + 1), b (p + 1 + 1), b (p + 1 + 1 + 1), b (p + 1 + 1 + 1 + 1), b (p + 1 + 1 + 1 + 1 + 1), b (p + 1 + 1 + 1 + 1 + 1 + 1)] := rfl
      rw [w7, show p + 1 + 1 = p + 2 by omega, show p + 2 + 1 = p + 3 by omega, show p + 3 + 1 = p + 4 by omega, show p + 4 + 1 = p + 5 by omega, show p + 5 + 1 = p + 6 by omega] at is
      have y0 := y_M_byteAt (K := K) F B (i := p) (by omega)
      have y1 := y_M_byteAt (K := K) F B (i := p + 1) (by omega)
      have y2 := y_M_byteAt (K := K) F B (i := p + 2) (by omega)
      have y3 := y_M_byteAt (K := K) F B (i := p + 3) (by omega)
      have y4 := y_M_byteAt (K := K) F B (i := p + 4) (by omega)
      have y5 := y_M_byteAt (K := K) F B (i := p + 5) (by omega)
      have y6 := y_M_byteAt (K := K) F B (i := p + 6) (by omega)
      have r0 := B.2.2.2 p (by omega) (by omega)
      have r1 := B.2.2.2 (p + 1) (by omega) (by omega)
      have r2 := B.2.2.2 (p + 2) (by omega) (by omega)
      have r3 := B.2.2.2 (p + 3) (by omega) (by omega)
      have r4 := B.2.2.2 (p + 4) (by omega) (by omega)
      have r5 := B.2.2.2 (p + 5) (by omega) (by omega)
      have r6 := B.2.2.2 (p + 6) (by omega) (by omega)
      have wl : WL.getD 0 [] = [114, 101, 97, 99, 104, 101, 115] := rfl
      rw [wl] at is
      have is2 : (114 = b p ∧ 101 = b (p + 1) ∧ 97 = b (p + 2) ∧ 99 = b (p + 3) ∧ 104 = b (p + 4) ∧ 101 = b (p + 5) ∧ 115 = b (p + 6)) ↔ k = 0 := by
        rw [show ((0 : Nat) : Int) = 0 from rfl] at is
        rw [← is]
        simp only [List.cons.injEq, and_true]
      generalize b p = a0 at *
      generalize b (p + 1) = a1 at *
      generalize b (p + 2) = a2 at *
      generalize b (p + 3) = a3 at *
      generalize b (p + 4) = a4 at *
      generalize b (p + 5) = a5 at *
      generalize b (p + 6) = a6 at *
      have w4 := y_w4 (h := em U K z) r0 r1 r2 r3
      have v4 := y_w4 (x := 114) (y := 101) (u := 97) (v := 99) (h := em U K z) (by decide) (by decide) (by decide) (by decide)
      have w3 := y_w3 (h := em U K z) r4 r5 r6
      have v3 := y_w3 (x := 104) (y := 101) (u := 115) (h := em U K z) (by decide) (by decide) (by decide)
      have c4 : (lg_cmp (jv (256 * (256 * (256 * a0 + a1) + a2) + a3)) (jv (256 * (256 * (256 * 114 + 101) + 97) + 99)) = iv 0) = (a0 = 114 ∧ a1 = 101 ∧ a2 = 97 ∧ a3 = 99) := by
        by_cases q : a0 = 114 ∧ a1 = 101 ∧ a2 = 97 ∧ a3 = 99
        · rw [eq_true q, jc_eq (by omega)]
          exact eq_true rfl
        · rw [eq_false q]
          by_cases lt : 256 * (256 * (256 * a0 + a1) + a2) + a3 < 256 * (256 * (256 * 114 + 101) + 97) + 99
          · rw [jc_lt (by omega)]; exact iv_eqF (by omega)
          · rw [jc_gt (by omega)]; exact iv_eqF (by omega)
      have c3 : (lg_cmp (jv (256 * (256 * a4 + a5) + a6)) (jv (256 * (256 * 104 + 101) + 115)) = iv 0) = (a4 = 104 ∧ a5 = 101 ∧ a6 = 115) := by
        by_cases q : a4 = 104 ∧ a5 = 101 ∧ a6 = 115
        · rw [eq_true q, jc_eq (by omega)]
          exact eq_true rfl
        · rw [eq_false q]
          by_cases lt : 256 * (256 * a4 + a5) + a6 < 256 * (256 * 104 + 101) + 115
          · rw [jc_lt (by omega)]; exact iv_eqF (by omega)
          · rw [jc_gt (by omega)]; exact iv_eqF (by omega)
      generalize jv (256 * (256 * (256 * a0 + a1) + a2) + a3) = q4 at *
      generalize jv (256 * (256 * (256 * 114 + 101) + 97) + 99) = q4' at *
      generalize jv (256 * (256 * a4 + a5) + a6) = q3 at *
      generalize jv (256 * (256 * 104 + 101) + 115) = q3' at *
      by_cases g4 : a0 = 114 ∧ a1 = 101 ∧ a2 = 97 ∧ a3 = 99
      · rw [eq_true g4] at c4
        by_cases g3 : a4 = 104 ∧ a5 = 101 ∧ a6 = 115
        · rw [eq_true g3] at c3
          rw [bz_T (is2.mp (by omega))]
          clear is is2 t3 no
          simp (disch := first | decide | omega | (simp (disch := first | decide | omega) only [sv_s, sv_o, ur_s, ur_e, ur_o]; omega)) only [↓reduceIte, iv_add, iv_sub, iv_mul, iv_neg, iv_ltT, iv_ltF, iv_leT, iv_leF, iv_eqT, iv_eqF, iv_div, iv_mod, ↓bnI_s, ↓bnV_s, ↓bnJ_s, ↓bnR_s, rt_e, rt_0, rt_bz, sv_s, sv_o, ur_s, ur_e, ur_o, bz_T, bz_F, nat_eqF, Nat.reduceAdd, ↓q_M_isReaches, ↓gI_435_9 F, ↓gI_435_7 F, ↓gI_435_8 F, ↓gd_435 F, il_0, il_1, il_2, il_3, il_4, il_5, il_6, il_7, il_8, il_9, il_11, il_27, il_97, il_99, il_101, il_104, il_114, il_115, t1, h7, h8, l7, y0, y1, y2, y3, y4, y5, y6, w4, v4, w3, v3, c4, c3]
        · rw [eq_false g3] at c3
          rw [bz_F (fun q => by have := is2.mpr q; omega)]
          clear is is2 t3 no
          simp (disch := first | decide | omega | (simp (disch := first | decide | omega) only [sv_s, sv_o, ur_s, ur_e, ur_o]; omega)) only [↓reduceIte, iv_add, iv_sub, iv_mul, iv_neg, iv_ltT, iv_ltF, iv_leT, iv_leF, iv_eqT, iv_eqF, iv_div, iv_mod, ↓bnI_s, ↓bnV_s, ↓bnJ_s, ↓bnR_s, rt_e, rt_0, rt_bz, sv_s, sv_o, ur_s, ur_e, ur_o, bz_T, bz_F, nat_eqF, Nat.reduceAdd, ↓q_M_isReaches, ↓gI_435_9 F, ↓gI_435_7 F, ↓gI_435_8 F, ↓gd_435 F, il_0, il_1, il_2, il_3, il_4, il_5, il_6, il_7, il_8, il_9, il_11, il_27, il_97, il_99, il_101, il_104, il_114, il_115, t1, h7, h8, l7, y0, y1, y2, y3, y4, y5, y6, w4, v4, w3, v3, c4, c3]
      · rw [eq_false g4] at c4
        rw [bz_F (fun q => by have := is2.mpr q; omega)]
        clear is is2 t3 no
        simp (disch := first | decide | omega | (simp (disch := first | decide | omega) only [sv_s, sv_o, ur_s, ur_e, ur_o]; omega)) only [↓reduceIte, iv_add, iv_sub, iv_mul, iv_neg, iv_ltT, iv_ltF, iv_leT, iv_leF, iv_eqT, iv_eqF, iv_div, iv_mod, ↓bnI_s, ↓bnV_s, ↓bnJ_s, ↓bnR_s, rt_e, rt_0, rt_bz, sv_s, sv_o, ur_s, ur_e, ur_o, bz_T, bz_F, nat_eqF, Nat.reduceAdd, ↓q_M_isReaches, ↓gI_435_9 F, ↓gI_435_7 F, ↓gI_435_8 F, ↓gd_435 F, il_0, il_1, il_2, il_3, il_4, il_5, il_6, il_7, il_8, il_9, il_11, il_27, il_97, il_99, il_101, il_104, il_114, il_115, t1, h7, h8, l7, y0, y1, y2, y3, y4, y5, y6, w4, v4, w3, v3, c4, c3]
    · have k0 : k ≠ 0 := fun q => by
        have e0 := is.mpr (by rw [q]; rfl)
        have len := congrArg List.length e0
        rw [fwl_len] at len
        have l2 : (WL.getD 0 []).length = 7 := rfl
        omega
      rw [bz_F k0]
      have l7' : e - p < 7 ∨ 7 < e - p := by omega
      simp (disch := first | decide | omega | (simp (disch := first | decide | omega) only [sv_s, sv_o, ur_s, ur_e, ur_o]; omega)) only [↓reduceIte, iv_add, iv_sub, iv_mul, iv_neg, iv_ltT, iv_ltF, iv_leT, iv_leF, iv_eqT, iv_eqF, iv_div, iv_mod, ↓bnI_s, ↓bnV_s, ↓bnJ_s, ↓bnR_s, rt_e, rt_0, rt_bz, sv_s, sv_o, ur_s, ur_e, ur_o, bz_T, bz_F, nat_eqF, Nat.reduceAdd, ↓q_M_isReaches, ↓gI_435_9 F, ↓gI_435_7 F, ↓gI_435_8 F, ↓gd_435 F, il_0, il_1, il_2, il_3, il_4, il_5, il_6, il_7, il_8, il_9, il_11, il_27, il_97, il_99, il_101, il_104, il_114, il_115, t1, h7, h8]
  · have t9 : 3 ≤ U 435 9 ∧ U 435 9 ≤ 62 := by unfold sgT at t1; omega
    exact no (U 435 9) rfl (by omega) (by omega) (by unfold sgT at t1; omega)
theorem y_sortOf (F : Fix z) (B : B2 U b n) (T : MT U K b p k e v) (hp : 0 ≤ p ∧ e ≤ n) : cA m_M_sortOf [.ref 435] (em U K z) = some (.int (iv (srt k)), em U K z) := by
  have r := y_isReaches F B T hp
  have w1 := y_isWord (z := z) F T (i := 1) (by decide) (by decide)
  have w2 := y_isWord (z := z) F T (i := 2) (by decide) (by decide)
  have w4 := y_isWord (z := z) F T (i := 4) (by decide) (by decide)
  have w5 := y_isWord (z := z) F T (i := 5) (by decide) (by decide)
  have w7 := y_isWord (z := z) F T (i := 7) (by decide) (by decide)
  have w8 := y_isWord (z := z) F T (i := 8) (by decide) (by decide)
  have w10 := y_isWord (z := z) F T (i := 10) (by decide) (by decide)
  clear B T
  unfold srt
  rw [q_M_sortOf, gd_435 F, r, bnI_s]
  by_cases k0 : k = 0
  · rw [if_pos k0, bz_T k0, if_neg (show ¬ iv 1 = 0 by decide)]; rfl
  · rw [if_neg k0, bz_F k0, if_pos (show iv 0 = 0 from rfl)]
    rw [bl_1, w1, bnI_s]
    by_cases k1 : k = 1
    · rw [if_pos k1, bz_T (show k = ((1 : Nat) : Int) by omega), if_neg (show ¬ iv 1 = 0 by decide)]; rfl
    · rw [if_neg k1, bz_F (show ¬ k = ((1 : Nat) : Int) by omega), if_pos (show iv 0 = 0 from rfl)]
      rw [bl_2, w2, bnI_s]
      by_cases k2 : k = 2
      · rw [if_pos k2, bz_T (show k = ((2 : Nat) : Int) by omega), if_neg (show ¬ iv 1 = 0 by decide)]; rfl
      · rw [if_neg k2, bz_F (show ¬ k = ((2 : Nat) : Int) by omega), if_pos (show iv 0 = 0 from rfl)]
        rw [bl_4, w4, bnI_s]
        by_cases k4 : k = 4
        · rw [if_pos k4, bz_T (show k = ((4 : Nat) : Int) by omega), if_neg (show ¬ iv 1 = 0 by decide)]; rfl
        · rw [if_neg k4, bz_F (show ¬ k = ((4 : Nat) : Int) by omega), if_pos (show iv 0 = 0 from rfl)]
          rw [bl_5, w5, bnI_s]
          by_cases k5 : k = 5
          · rw [if_pos k5, bz_T (show k = ((5 : Nat) : Int) by omega), if_neg (show ¬ iv 1 = 0 by decide)]; rfl
          · rw [if_neg k5, bz_F (show ¬ k = ((5 : Nat) : Int) by omega), if_pos (show iv 0 = 0 from rfl)]
            rw [bl_7, w7, bnI_s]
            by_cases k7 : k = 7
            · rw [if_pos k7, bz_T (show k = ((7 : Nat) : Int) by omega), if_neg (show ¬ iv 1 = 0 by decide)]; rfl
            · rw [if_neg k7, bz_F (show ¬ k = ((7 : Nat) : Int) by omega), if_pos (show iv 0 = 0 from rfl)]
              rw [bl_8, w8, bnI_s]
              by_cases k8 : k = 8
              · rw [if_pos k8, bz_T (show k = ((8 : Nat) : Int) by omega), if_neg (show ¬ iv 1 = 0 by decide)]; rfl
              · rw [if_neg k8, bz_F (show ¬ k = ((8 : Nat) : Int) by omega), if_pos (show iv 0 = 0 from rfl)]
                rw [bl_10, w10, bnI_s]
                by_cases k10 : k = 10
                · rw [if_pos k10, bz_T (show k = ((10 : Nat) : Int) by omega), if_neg (show ¬ iv 1 = 0 by decide)]; rfl
                · rw [if_neg k10, bz_F (show ¬ k = ((10 : Nat) : Int) by omega), if_pos (show iv 0 = 0 from rfl)]
                  rfl
/-- a number told -/
theorem y_figok (F : Fix z) (S : SO s) (T : Mt U K s i) (hi' : 0 ≤ i ∧ i < sM s) (hk : sK s i = 38) (hv : sV s i = v) (hb : lo ≤ v ∧ v ≤ hi) (hr : 0 ≤ lo ∧ hi ≤ 9999) (hx : 0 ≤ x ∧ x < 2724) : ∃ U' K', cA m_M_figure [.ref 435, .int (iv x), .int (iv lo), .int (iv hi)] (em U K z) = some (.int (iv 0), em U' K' z) ∧ Mt U' K' s (i + 1) ∧ (∀ a, a ≠ 435 → a ≠ 438 → U' a = U a) ∧ (∀ q, ¬ (7 ≤ q ∧ q ≤ 10) → U' 435 q = U 435 q) ∧ U' 438 x = v ∧ ∀ q, q ≠ x → U' 438 q = U 438 q := by
  obtain ⟨t1, nr⟩ := T.2.n38 hk
  rw [hv] at nr
  unfold NR at nr
  have n10 : U 435 10 = v := by omega
  have T1 : Mt (sv U 438 x v) K s i := T.c (by simp (disch := first | decide | omega | (simp (disch := first | decide | omega) only [sv_s, sv_o, ur_s, ur_e, ur_o]; omega)) only [↓reduceIte, iv_add, iv_sub, iv_mul, iv_neg, iv_ltT, iv_ltF, iv_leT, iv_leF, iv_eqT, iv_eqF, iv_div, iv_mod, ↓bnI_s, ↓bnV_s, ↓bnJ_s, ↓bnR_s, rt_e, rt_0, rt_bz, sv_s, sv_o, ur_s, ur_e, ur_o, bz_T, bz_F, nat_eqF, Nat.reduceAdd]) (fun q hq => by simp (disch := first | decide | omega | (simp (disch := first | decide | omega) only [sv_s, sv_o, ur_s, ur_e, ur_o]; omega)) only [↓reduceIte, iv_add, iv_sub, iv_mul, iv_neg, iv_ltT, iv_ltF, iv_leT, iv_leF, iv_eqT, iv_eqF, iv_div, iv_mod, ↓bnI_s, ↓bnV_s, ↓bnJ_s, ↓bnR_s, rt_e, rt_0, rt_bz, sv_s, sv_o, ur_s, ur_e, ur_o, bz_T, bz_F, nat_eqF, Nat.reduceAdd])
  obtain ⟨U2, K2, n1, n2, n3⟩ := T1.nextT F S hi'
  have is := y_isIn (v := v) (lo := lo) (hi := hi) (h := em U K z) (by omega)
  rw [bz_T hb] at is
  refine ⟨U2, K2, ?_, n3, fun a h1 h2 => by rw [n2.1 a h1]; simp (disch := first | decide | omega | (simp (disch := first | decide | omega) only [sv_s, sv_o, ur_s, ur_e, ur_o]; omega)) only [↓reduceIte, iv_add, iv_sub, iv_mul, iv_neg, iv_ltT, iv_ltF, iv_leT, iv_leF, iv_eqT, iv_eqF, iv_div, iv_mod, ↓bnI_s, ↓bnV_s, ↓bnJ_s, ↓bnR_s, rt_e, rt_0, rt_bz, sv_s, sv_o, ur_s, ur_e, ur_o, bz_T, bz_F, nat_eqF, Nat.reduceAdd], fun q hq => by rw [n2.2 q (by omega) (by omega) (by omega) (by omega)]; simp (disch := first | decide | omega | (simp (disch := first | decide | omega) only [sv_s, sv_o, ur_s, ur_e, ur_o]; omega)) only [↓reduceIte, iv_add, iv_sub, iv_mul, iv_neg, iv_ltT, iv_ltF, iv_leT, iv_leF, iv_eqT, iv_eqF, iv_div, iv_mod, ↓bnI_s, ↓bnV_s, ↓bnJ_s, ↓bnR_s, rt_e, rt_0, rt_bz, sv_s, sv_o, ur_s, ur_e, ur_o, bz_T, bz_F, nat_eqF, Nat.reduceAdd], by rw [n2.1 438 (by decide)]; simp (disch := first | decide | omega | (simp (disch := first | decide | omega) only [sv_s, sv_o, ur_s, ur_e, ur_o]; omega)) only [↓reduceIte, iv_add, iv_sub, iv_mul, iv_neg, iv_ltT, iv_ltF, iv_leT, iv_leF, iv_eqT, iv_eqF, iv_div, iv_mod, ↓bnI_s, ↓bnV_s, ↓bnJ_s, ↓bnR_s, rt_e, rt_0, rt_bz, sv_s, sv_o, ur_s, ur_e, ur_o, bz_T, bz_F, nat_eqF, Nat.reduceAdd], fun q hq => by rw [n2.1 438 (by decide)]; simp (disch := first | decide | omega | (simp (disch := first | decide | omega) only [sv_s, sv_o, ur_s, ur_e, ur_o]; omega)) only [↓reduceIte, iv_add, iv_sub, iv_mul, iv_neg, iv_ltT, iv_ltF, iv_leT, iv_leF, iv_eqT, iv_eqF, iv_div, iv_mod, ↓bnI_s, ↓bnV_s, ↓bnJ_s, ↓bnR_s, rt_e, rt_0, rt_bz, sv_s, sv_o, ur_s, ur_e, ur_o, bz_T, bz_F, nat_eqF, Nat.reduceAdd]⟩
  simp (disch := first | decide | omega | (simp (disch := first | decide | omega) only [sv_s, sv_o, ur_s, ur_e, ur_o]; omega)) only [↓reduceIte, iv_add, iv_sub, iv_mul, iv_neg, iv_ltT, iv_ltF, iv_leT, iv_leF, iv_eqT, iv_eqF, iv_div, iv_mod, ↓bnI_s, ↓bnV_s, ↓bnJ_s, ↓bnR_s, rt_e, rt_0, rt_bz, sv_s, sv_o, ur_s, ur_e, ur_o, bz_T, bz_F, nat_eqF, Nat.reduceAdd, ↓q_M_figure, ↓gI_435_9 F, ↓gI_435_10 F, ↓gR_435_2 F, ↓sI_436 F, ↓sI_437 F, ↓sI_438 F, ↓sI_439 F, ↓sI_440 F, ↓sI_441 F, ↓sI_443 F, ↓sI_444 F, ↓sI_445 F, ↓sI_446 F, ↓sI_447 F, ↓sI_448 F, ↓sI_449 F, ↓sI_450 F, ↓gd_435 F, il_0, il_1, il_2, il_9, il_10, il_11, il_27, t1, n10, is, n1]
theorem y_figout (F : Fix z) (T : Mt U K s i) (hk : sK s i = 38) (hb : ¬ (lo ≤ sV s i ∧ sV s i ≤ hi)) (hr : 0 ≤ lo ∧ lo ≤ 9999 ∧ 0 ≤ hi ∧ hi ≤ 9999) : cA m_M_figure [.ref 435, .int (iv x), .int (iv lo), .int (iv hi)] (em U K z) = some (.int (iv 2), em U K z) := by
  obtain ⟨t1, nr⟩ := T.2.n38 hk
  unfold NR at nr
  have is := y_isIn (v := U 435 10) (lo := lo) (hi := hi) (h := em U K z) (by omega)
  rw [bz_F (by omega)] at is
  generalize hy : U 435 10 = y at *
  simp (disch := first | decide | omega | (simp (disch := first | decide | omega) only [sv_s, sv_o, ur_s, ur_e, ur_o]; omega)) only [↓reduceIte, iv_add, iv_sub, iv_mul, iv_neg, iv_ltT, iv_ltF, iv_leT, iv_leF, iv_eqT, iv_eqF, iv_div, iv_mod, ↓bnI_s, ↓bnV_s, ↓bnJ_s, ↓bnR_s, rt_e, rt_0, rt_bz, sv_s, sv_o, ur_s, ur_e, ur_o, bz_T, bz_F, nat_eqF, Nat.reduceAdd, ↓q_M_figure, ↓gI_435_9 F, ↓gI_435_10 F, ↓gR_435_2 F, ↓sI_436 F, ↓sI_437 F, ↓sI_438 F, ↓sI_439 F, ↓sI_440 F, ↓sI_441 F, ↓sI_443 F, ↓sI_444 F, ↓sI_445 F, ↓sI_446 F, ↓sI_447 F, ↓sI_448 F, ↓sI_449 F, ↓sI_450 F, ↓gd_435 F, il_0, il_1, il_2, il_9, il_10, il_11, il_27, t1, hy, is]
theorem y_figno (F : Fix z) (T : Mt U K s i) (hk : sK s i ≠ 38) : cA m_M_figure [.ref 435, .int (iv x), .int (iv lo), .int (iv hi)] (em U K z) = some (.int (iv 1), em U K z) := by
  have tt := T.2.tt
  have t1 : U 435 9 < 1 ∨ 1 < U 435 9 := by unfold Tt sgT at tt; omega
  have tr := tt.rg.2
  generalize hy : U 435 9 = y at *
  clear tt T
  simp (disch := first | decide | omega | (simp (disch := first | decide | omega) only [sv_s, sv_o, ur_s, ur_e, ur_o]; omega)) only [↓reduceIte, iv_add, iv_sub, iv_mul, iv_neg, iv_ltT, iv_ltF, iv_leT, iv_leF, iv_eqT, iv_eqF, iv_div, iv_mod, ↓bnI_s, ↓bnV_s, ↓bnJ_s, ↓bnR_s, rt_e, rt_0, rt_bz, sv_s, sv_o, ur_s, ur_e, ur_o, bz_T, bz_F, nat_eqF, Nat.reduceAdd, ↓q_M_figure, ↓gI_435_9 F, ↓gI_435_10 F, ↓gR_435_2 F, ↓sI_436 F, ↓sI_437 F, ↓sI_438 F, ↓sI_439 F, ↓sI_440 F, ↓sI_441 F, ↓sI_443 F, ↓sI_444 F, ↓sI_445 F, ↓sI_446 F, ↓sI_447 F, ↓sI_448 F, ↓sI_449 F, ↓sI_450 F, ↓gd_435 F, il_0, il_1, il_2, il_9, il_10, il_11, il_27, hy]
end
