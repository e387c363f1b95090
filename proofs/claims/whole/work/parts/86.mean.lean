/-! what a law's code means: values -/
/-- a name, by the class's number -/
def nmV (A : Int → Int) (k c : Int) : Int := if c = 3 then A (11 + k) else if c = 10 then A 7 else if c = 11 then k else if c = 12 then A (23 + k) else if c = 13 then A (17 + k) else if c = 15 then A 9 else A (11 + fur A k 1) + A (11 + fur A k (A 0 - 1))
/-- of one value -/
def onV (A : Int → Int) (c v : Int) : Int := if c = 24 then (if v = 0 then 1 else 0) else if c = 41 then -v else if c = 16 then (if 0 ≤ v ∧ v < A 0 then fur A v (A 0 / 2) else 0) else if 0 ≤ v ∧ v < A 0 then A (11 + v) else 0
def cpV (x : Int) : Int := if 1000000 < x then 1000000 else if x < -1000000 then -1000000 else x
/-- of two values -/
def twV (c x y : Int) : Int := if c = 29 then cpV (x + y) else if c = 30 then cpV (x - y) else if c = 31 then cpV (x * y) else if y = 0 then 0 else x.tdiv y
/-- of a comparison, and of two that are so or not -/
def asV (c x y : Int) : Int := if c = 25 then bz (x < y) else if c = 36 then bz (x ≤ y) else if c = 26 then bz (y < x) else if c = 37 then bz (y ≤ x) else if c = 27 then bz (x = y) else if c = 28 then bz (x ≠ y) else if c = 23 then bz (x ≠ 0 ∧ y ≠ 0) else bz (x ≠ 0 ∨ y ≠ 0)
/-- a value within the bounds of all values -/
def Bd (x : Int) : Prop := -1000000 ≤ x ∧ x ≤ 1000000
theorem cpV_b (x : Int) : Bd (cpV x) := by
  unfold cpV Bd
  split
  · omega
  · split <;> omega
theorem td_b {x y : Int} (h : Bd x) : Bd (x.tdiv y) := by
  have q : (x.tdiv y).natAbs ≤ x.natAbs := by rw [Int.natAbs_tdiv]; exact Nat.div_le_self _ _
  unfold Bd at *
  omega
theorem twV_b {c x y : Int} (hx : Bd x) : Bd (twV c x y) := by
  unfold twV
  split
  · exact cpV_b _
  · split
    · exact cpV_b _
    · split
      · exact cpV_b _
      · split
        · unfold Bd; omega
        · exact td_b hx
theorem asV_b {c x y : Int} : asV c x y = 0 ∨ asV c x y = 1 := by
  unfold asV
  repeat' split
  all_goals exact bz_01 _
section
variable {A : Int → Int} {V J : Vm} {z : Zz} {t : Nat}
theorem Kn.fur_ (h : Kn V t A) {k b : Int} (hk : 0 ≤ k ∧ k < A 0) (hb : 0 ≤ b) : 0 ≤ fur A k b ∧ fur A k b < A 0 := h.ps.fr_ hk hb
theorem Kn.kept_ (h : Kn V t A) {k : Int} (hk : 0 ≤ k ∧ k < A 0) : 0 ≤ A (11 + k) ∧ A (11 + k) ≤ 99 := (h.2.2.2.1 k hk.1 hk.2).2.2.2.1
theorem nmV_b (h : Kn V t A) {k c : Int} (hk : 0 ≤ k ∧ k < A 0) : 0 ≤ nmV A k c ∧ nmV A k c ≤ 9999 := by
  have n2 := h.2.1
  have e7 := h.2.2.2.2.2.2.1.2
  have e9 := h.2.2.2.2.2.2.2.2.1.2
  have f1 := h.fur_ hk (b := 1) (by omega)
  have f2 := h.fur_ hk (b := A 0 - 1) (by omega)
  have k1 := h.kept_ f1
  have k2 := h.kept_ f2
  have k0 := h.kept_ hk
  have tm := (h.2.2.1 k hk.1 hk.2).2.1
  have st := (h.2.2.2.1 k hk.1 hk.2).2.2.2.2
  unfold nmV
  repeat' split
  all_goals omega
theorem onV_b (h : Kn V t A) {c v : Int} (hv : Bd v) : Bd (onV A c v) := by
  have n2 := h.2.1
  unfold onV Bd at *
  split
  · split <;> omega
  · split
    · omega
    · split
      · split
        · rename_i q
          have f := h.fur_ (b := A 0 / 2) q (by omega)
          omega
        · omega
      · split
        · rename_i q
          have f := h.kept_ q
          omega
        · omega
theorem y_named (T : Tab z t) (h : Kn V t A) {k c : Int} (hk : 0 ≤ k ∧ k < A 0) (hc : c = 3 ∨ (10 ≤ c ∧ c ≤ 15)) : cA m_Asker_named [.int (iv c), .ref t, .int (iv k)] (em V J z) = some (.int (iv (nmV A k c)), em V J z) := by
  have n1 := h.1
  have n2 := h.2.1
  have e7 := h.2.2.2.2.2.2.1.1
  have e9 := h.2.2.2.2.2.2.2.2.1.1
  have w1 := y_whoFrom (V := V) (J := J) T h.1 n2 h.2.2.2 hk (f := 1) (by omega)
  have w2 := y_whoFrom (V := V) (J := J) T h.1 n2 h.2.2.2 hk (f := A 0 - 1) (by omega)
  have f1 := h.fur_ hk (b := 1) (by omega)
  have f2 := h.fur_ hk (b := A 0 - 1) (by omega)
  have d1 := (h.2.2.2.1 _ f1.1 f1.2).1
  have d2 := (h.2.2.2.1 _ f2.1 f2.2).1
  have d0 := (h.2.2.2.1 k hk.1 hk.2).1
  have s0 := (h.2.2.2.1 k hk.1 hk.2).2.1
  have t0 := (h.2.2.1 k hk.1 hk.2).1
  have hc7 : c = 3 ∨ c = 10 ∨ c = 11 ∨ c = 12 ∨ c = 13 ∨ c = 14 ∨ c = 15 := by omega
  unfold nmV
  generalize fur A k 1 = x at *
  generalize fur A k (A 0 - 1) = y at *
  clear hc h
  rcases hc7 with rfl | rfl | rfl | rfl | rfl | rfl | rfl
  · rw [if_pos rfl]
    simp (disch := first | decide | omega | (simp (disch := first | decide | omega) only [sv_s, sv_o, ur_s, ur_e, ur_o]; omega)) only [↓reduceIte, iv_add, iv_sub, iv_mul, iv_neg, iv_ltT, iv_ltF, iv_leT, iv_leF, iv_eqT, iv_eqF, iv_div, iv_mod, ↓bnI_s, ↓bnV_s, ↓bnJ_s, ↓bnR_s, rt_e, rt_0, rt_bz, sv_s, sv_o, ur_s, ur_e, ur_o, bz_T, bz_F, nat_eqF, Nat.reduceAdd, ↓q_Asker_named, ↓rT_1 T, ↓gT_7 T, ↓rT_0 T, ↓rT_2 T, ↓gT_9 T, ↓gT_5 T, il_0, il_1, il_2, il_3, il_5, il_7, il_9, il_10, il_11, il_12, il_13, il_15, y_get T.s2 (by decide), rd_in, d0]
  · rw [if_neg (by decide), if_pos rfl]
    simp (disch := first | decide | omega | (simp (disch := first | decide | omega) only [sv_s, sv_o, ur_s, ur_e, ur_o]; omega)) only [↓reduceIte, iv_add, iv_sub, iv_mul, iv_neg, iv_ltT, iv_ltF, iv_leT, iv_leF, iv_eqT, iv_eqF, iv_div, iv_mod, ↓bnI_s, ↓bnV_s, ↓bnJ_s, ↓bnR_s, rt_e, rt_0, rt_bz, sv_s, sv_o, ur_s, ur_e, ur_o, bz_T, bz_F, nat_eqF, Nat.reduceAdd, ↓q_Asker_named, ↓rT_1 T, ↓gT_7 T, ↓rT_0 T, ↓rT_2 T, ↓gT_9 T, ↓gT_5 T, il_0, il_1, il_2, il_3, il_5, il_7, il_9, il_10, il_11, il_12, il_13, il_15, e7]
  · rw [if_neg (by decide), if_neg (by decide), if_pos rfl]
    simp (disch := first | decide | omega | (simp (disch := first | decide | omega) only [sv_s, sv_o, ur_s, ur_e, ur_o]; omega)) only [↓reduceIte, iv_add, iv_sub, iv_mul, iv_neg, iv_ltT, iv_ltF, iv_leT, iv_leF, iv_eqT, iv_eqF, iv_div, iv_mod, ↓bnI_s, ↓bnV_s, ↓bnJ_s, ↓bnR_s, rt_e, rt_0, rt_bz, sv_s, sv_o, ur_s, ur_e, ur_o, bz_T, bz_F, nat_eqF, Nat.reduceAdd, ↓q_Asker_named, ↓rT_1 T, ↓gT_7 T, ↓rT_0 T, ↓rT_2 T, ↓gT_9 T, ↓gT_5 T, il_0, il_1, il_2, il_3, il_5, il_7, il_9, il_10, il_11, il_12, il_13, il_15]
  · rw [if_neg (by decide), if_neg (by decide), if_neg (by decide), if_pos rfl]
    simp (disch := first | decide | omega | (simp (disch := first | decide | omega) only [sv_s, sv_o, ur_s, ur_e, ur_o]; omega)) only [↓reduceIte, iv_add, iv_sub, iv_mul, iv_neg, iv_ltT, iv_ltF, iv_leT, iv_leF, iv_eqT, iv_eqF, iv_div, iv_mod, ↓bnI_s, ↓bnV_s, ↓bnJ_s, ↓bnR_s, rt_e, rt_0, rt_bz, sv_s, sv_o, ur_s, ur_e, ur_o, bz_T, bz_F, nat_eqF, Nat.reduceAdd, ↓q_Asker_named, ↓rT_1 T, ↓gT_7 T, ↓rT_0 T, ↓rT_2 T, ↓gT_9 T, ↓gT_5 T, il_0, il_1, il_2, il_3, il_5, il_7, il_9, il_10, il_11, il_12, il_13, il_15, y_get T.s1 (by decide), rd_in, t0]
  · rw [if_neg (by decide), if_neg (by decide), if_neg (by decide), if_neg (by decide), if_pos rfl]
    simp (disch := first | decide | omega | (simp (disch := first | decide | omega) only [sv_s, sv_o, ur_s, ur_e, ur_o]; omega)) only [↓reduceIte, iv_add, iv_sub, iv_mul, iv_neg, iv_ltT, iv_ltF, iv_leT, iv_leF, iv_eqT, iv_eqF, iv_div, iv_mod, ↓bnI_s, ↓bnV_s, ↓bnJ_s, ↓bnR_s, rt_e, rt_0, rt_bz, sv_s, sv_o, ur_s, ur_e, ur_o, bz_T, bz_F, nat_eqF, Nat.reduceAdd, ↓q_Asker_named, ↓rT_1 T, ↓gT_7 T, ↓rT_0 T, ↓rT_2 T, ↓gT_9 T, ↓gT_5 T, il_0, il_1, il_2, il_3, il_5, il_7, il_9, il_10, il_11, il_12, il_13, il_15, y_get T.s3 (by decide), rd_in, s0]
  · rw [if_neg (by decide), if_neg (by decide), if_neg (by decide), if_neg (by decide), if_neg (by decide), if_neg (by decide)]
    simp (disch := first | decide | omega | (simp (disch := first | decide | omega) only [sv_s, sv_o, ur_s, ur_e, ur_o]; omega)) only [↓reduceIte, iv_add, iv_sub, iv_mul, iv_neg, iv_ltT, iv_ltF, iv_leT, iv_leF, iv_eqT, iv_eqF, iv_div, iv_mod, ↓bnI_s, ↓bnV_s, ↓bnJ_s, ↓bnR_s, rt_e, rt_0, rt_bz, sv_s, sv_o, ur_s, ur_e, ur_o, bz_T, bz_F, nat_eqF, Nat.reduceAdd, ↓q_Asker_named, ↓rT_1 T, ↓gT_7 T, ↓rT_0 T, ↓rT_2 T, ↓gT_9 T, ↓gT_5 T, il_0, il_1, il_2, il_3, il_5, il_7, il_9, il_10, il_11, il_12, il_13, il_15, y_get T.s2 (by decide), rd_in, w1, w2, d1, d2, n1]
  · rw [if_neg (by decide), if_neg (by decide), if_neg (by decide), if_neg (by decide), if_neg (by decide), if_pos rfl]
    simp (disch := first | decide | omega | (simp (disch := first | decide | omega) only [sv_s, sv_o, ur_s, ur_e, ur_o]; omega)) only [↓reduceIte, iv_add, iv_sub, iv_mul, iv_neg, iv_ltT, iv_ltF, iv_leT, iv_leF, iv_eqT, iv_eqF, iv_div, iv_mod, ↓bnI_s, ↓bnV_s, ↓bnJ_s, ↓bnR_s, rt_e, rt_0, rt_bz, sv_s, sv_o, ur_s, ur_e, ur_o, bz_T, bz_F, nat_eqF, Nat.reduceAdd, ↓q_Asker_named, ↓rT_1 T, ↓gT_7 T, ↓rT_0 T, ↓rT_2 T, ↓gT_9 T, ↓gT_5 T, il_0, il_1, il_2, il_3, il_5, il_7, il_9, il_10, il_11, il_12, il_13, il_15, e9]
theorem y_ofOne (T : Tab z t) (h : Kn V t A) {c v : Int} (hv : Bd v) (hc : c = 16 ∨ c = 17 ∨ c = 24 ∨ c = 41) : cA m_Asker_ofOne [.int (iv c), .int (iv v), .ref t] (em V J z) = some (.int (iv (onV A c v)), em V J z) := by
  have n1 := h.1
  have n2 := h.2.1
  have hs := y_has (V := V) (J := J) T (i := v) (by unfold Bd at hv; omega) (by omega)
  rw [n1] at hs
  unfold onV Bd at *
  rcases hc with rfl | rfl | rfl | rfl
  · rw [if_neg (by decide), if_neg (by decide), if_pos rfl]
    by_cases q : 0 ≤ v ∧ v < A 0
    · have w := y_whoFrom (V := V) (J := J) T h.1 n2 h.2.2.2 q (f := A 0 / 2) (by omega)
      rw [if_pos q]
      rw [bz_T q] at hs
      simp (disch := first | decide | omega | (simp (disch := first | decide | omega) only [sv_s, sv_o, ur_s, ur_e, ur_o]; omega)) only [↓reduceIte, iv_add, iv_sub, iv_mul, iv_neg, iv_ltT, iv_ltF, iv_leT, iv_leF, iv_eqT, iv_eqF, iv_div, iv_mod, ↓bnI_s, ↓bnV_s, ↓bnJ_s, ↓bnR_s, rt_e, rt_0, rt_bz, sv_s, sv_o, ur_s, ur_e, ur_o, bz_T, bz_F, nat_eqF, Nat.reduceAdd, ↓q_Asker_ofOne, ↓gT_5 T, ↓rT_1 T, il_0, il_1, il_2, il_5, il_7, il_16, il_24, il_41, hs, n1, w]
    · rw [if_neg q]
      rw [bz_F q] at hs
      simp (disch := first | decide | omega | (simp (disch := first | decide | omega) only [sv_s, sv_o, ur_s, ur_e, ur_o]; omega)) only [↓reduceIte, iv_add, iv_sub, iv_mul, iv_neg, iv_ltT, iv_ltF, iv_leT, iv_leF, iv_eqT, iv_eqF, iv_div, iv_mod, ↓bnI_s, ↓bnV_s, ↓bnJ_s, ↓bnR_s, rt_e, rt_0, rt_bz, sv_s, sv_o, ur_s, ur_e, ur_o, bz_T, bz_F, nat_eqF, Nat.reduceAdd, ↓q_Asker_ofOne, ↓gT_5 T, ↓rT_1 T, il_0, il_1, il_2, il_5, il_7, il_16, il_24, il_41, hs]
  · rw [if_neg (by decide), if_neg (by decide), if_neg (by decide)]
    by_cases q : 0 ≤ v ∧ v < A 0
    · have d0 := (h.2.2.2.1 v q.1 q.2).1
      rw [if_pos q]
      rw [bz_T q] at hs
      simp (disch := first | decide | omega | (simp (disch := first | decide | omega) only [sv_s, sv_o, ur_s, ur_e, ur_o]; omega)) only [↓reduceIte, iv_add, iv_sub, iv_mul, iv_neg, iv_ltT, iv_ltF, iv_leT, iv_leF, iv_eqT, iv_eqF, iv_div, iv_mod, ↓bnI_s, ↓bnV_s, ↓bnJ_s, ↓bnR_s, rt_e, rt_0, rt_bz, sv_s, sv_o, ur_s, ur_e, ur_o, bz_T, bz_F, nat_eqF, Nat.reduceAdd, ↓q_Asker_ofOne, ↓gT_5 T, ↓rT_1 T, il_0, il_1, il_2, il_5, il_7, il_16, il_24, il_41, hs, y_get T.s2 (by decide), rd_in, d0]
    · rw [if_neg q]
      rw [bz_F q] at hs
      simp (disch := first | decide | omega | (simp (disch := first | decide | omega) only [sv_s, sv_o, ur_s, ur_e, ur_o]; omega)) only [↓reduceIte, iv_add, iv_sub, iv_mul, iv_neg, iv_ltT, iv_ltF, iv_leT, iv_leF, iv_eqT, iv_eqF, iv_div, iv_mod, ↓bnI_s, ↓bnV_s, ↓bnJ_s, ↓bnR_s, rt_e, rt_0, rt_bz, sv_s, sv_o, ur_s, ur_e, ur_o, bz_T, bz_F, nat_eqF, Nat.reduceAdd, ↓q_Asker_ofOne, ↓gT_5 T, ↓rT_1 T, il_0, il_1, il_2, il_5, il_7, il_16, il_24, il_41, hs]
  · rw [if_pos rfl]
    by_cases q : v = 0
    · rw [if_pos q, q]
      simp (disch := first | decide | omega | (simp (disch := first | decide | omega) only [sv_s, sv_o, ur_s, ur_e, ur_o]; omega)) only [↓reduceIte, iv_add, iv_sub, iv_mul, iv_neg, iv_ltT, iv_ltF, iv_leT, iv_leF, iv_eqT, iv_eqF, iv_div, iv_mod, ↓bnI_s, ↓bnV_s, ↓bnJ_s, ↓bnR_s, rt_e, rt_0, rt_bz, sv_s, sv_o, ur_s, ur_e, ur_o, bz_T, bz_F, nat_eqF, Nat.reduceAdd, ↓q_Asker_ofOne, ↓gT_5 T, ↓rT_1 T, il_0, il_1, il_2, il_5, il_7, il_16, il_24, il_41]
    · rw [if_neg q]
      simp (disch := first | decide | omega | (simp (disch := first | decide | omega) only [sv_s, sv_o, ur_s, ur_e, ur_o]; omega)) only [↓reduceIte, iv_add, iv_sub, iv_mul, iv_neg, iv_ltT, iv_ltF, iv_leT, iv_leF, iv_eqT, iv_eqF, iv_div, iv_mod, ↓bnI_s, ↓bnV_s, ↓bnJ_s, ↓bnR_s, rt_e, rt_0, rt_bz, sv_s, sv_o, ur_s, ur_e, ur_o, bz_T, bz_F, nat_eqF, Nat.reduceAdd, ↓q_Asker_ofOne, ↓gT_5 T, ↓rT_1 T, il_0, il_1, il_2, il_5, il_7, il_16, il_24, il_41]
  · rw [if_neg (by decide), if_pos rfl]
    simp (disch := first | decide | omega | (simp (disch := first | decide | omega) only [sv_s, sv_o, ur_s, ur_e, ur_o]; omega)) only [↓reduceIte, iv_add, iv_sub, iv_mul, iv_neg, iv_ltT, iv_ltF, iv_leT, iv_leF, iv_eqT, iv_eqF, iv_div, iv_mod, ↓bnI_s, ↓bnV_s, ↓bnJ_s, ↓bnR_s, rt_e, rt_0, rt_bz, sv_s, sv_o, ur_s, ur_e, ur_o, bz_T, bz_F, nat_eqF, Nat.reduceAdd, ↓q_Asker_ofOne, ↓gT_5 T, ↓rT_1 T, il_0, il_1, il_2, il_5, il_7, il_16, il_24, il_41]
end
theorem y_capped {x : Int} {h : Mem} (hx : -10000000000000 ≤ x ∧ x ≤ 10000000000000) : cA m_Asker_capped [.long (jv x)] h = some (.int (iv (cpV x)), h) := by
  unfold cpV
  have jm : (-1000000 : Int64).toInt32 = iv (-1000000) := rfl
  by_cases h1 : 1000000 < x
  · rw [if_pos h1]
    simp (disch := first | decide | omega | (simp (disch := first | decide | omega) only [sv_s, sv_o, ur_s, ur_e, ur_o]; omega)) only [↓reduceIte, iv_add, iv_sub, iv_mul, iv_neg, iv_ltT, iv_ltF, iv_leT, iv_leF, iv_eqT, iv_eqF, iv_div, iv_mod, ↓bnI_s, ↓bnV_s, ↓bnJ_s, ↓bnR_s, rt_e, rt_0, rt_bz, sv_s, sv_o, ur_s, ur_e, ur_o, bz_T, bz_F, nat_eqF, Nat.reduceAdd, ↓q_Asker_capped, il_0, il_1, il_1000000, jl_1000000, jv_neg, jc_gt (a := x) (b := 1000000), jv_int]
  · rw [if_neg h1]
    by_cases h2 : x < -1000000
    · rw [if_pos h2]
      simp (disch := first | decide | omega | (simp (disch := first | decide | omega) only [sv_s, sv_o, ur_s, ur_e, ur_o]; omega)) only [↓reduceIte, iv_add, iv_sub, iv_mul, iv_neg, iv_ltT, iv_ltF, iv_leT, iv_leF, iv_eqT, iv_eqF, iv_div, iv_mod, ↓bnI_s, ↓bnV_s, ↓bnJ_s, ↓bnR_s, rt_e, rt_0, rt_bz, sv_s, sv_o, ur_s, ur_e, ur_o, bz_T, bz_F, nat_eqF, Nat.reduceAdd, ↓q_Asker_capped, il_0, il_1, il_1000000, jl_1000000, jv_neg, jc_lt (a := x) (b := 1000000), jc_lt (a := x) (b := -1000000), jv_int]
      rfl
    · rw [if_neg h2]
      by_cases h3 : x = 1000000
      · simp (disch := first | decide | omega | (simp (disch := first | decide | omega) only [sv_s, sv_o, ur_s, ur_e, ur_o]; omega)) only [↓reduceIte, iv_add, iv_sub, iv_mul, iv_neg, iv_ltT, iv_ltF, iv_leT, iv_leF, iv_eqT, iv_eqF, iv_div, iv_mod, ↓bnI_s, ↓bnV_s, ↓bnJ_s, ↓bnR_s, rt_e, rt_0, rt_bz, sv_s, sv_o, ur_s, ur_e, ur_o, bz_T, bz_F, nat_eqF, Nat.reduceAdd, ↓q_Asker_capped, il_0, il_1, il_1000000, jl_1000000, jv_neg, jc_eq (a := x) (b := 1000000), jc_gt (a := x) (b := -1000000), jv_int]
      · by_cases h4 : x = -1000000
        · simp (disch := first | decide | omega | (simp (disch := first | decide | omega) only [sv_s, sv_o, ur_s, ur_e, ur_o]; omega)) only [↓reduceIte, iv_add, iv_sub, iv_mul, iv_neg, iv_ltT, iv_ltF, iv_leT, iv_leF, iv_eqT, iv_eqF, iv_div, iv_mod, ↓bnI_s, ↓bnV_s, ↓bnJ_s, ↓bnR_s, rt_e, rt_0, rt_bz, sv_s, sv_o, ur_s, ur_e, ur_o, bz_T, bz_F, nat_eqF, Nat.reduceAdd, ↓q_Asker_capped, il_0, il_1, il_1000000, jl_1000000, jv_neg, jc_lt (a := x) (b := 1000000), jc_eq (a := x) (b := -1000000), jv_int]
        · simp (disch := first | decide | omega | (simp (disch := first | decide | omega) only [sv_s, sv_o, ur_s, ur_e, ur_o]; omega)) only [↓reduceIte, iv_add, iv_sub, iv_mul, iv_neg, iv_ltT, iv_ltF, iv_leT, iv_leF, iv_eqT, iv_eqF, iv_div, iv_mod, ↓bnI_s, ↓bnV_s, ↓bnJ_s, ↓bnR_s, rt_e, rt_0, rt_bz, sv_s, sv_o, ur_s, ur_e, ur_o, bz_T, bz_F, nat_eqF, Nat.reduceAdd, ↓q_Asker_capped, il_0, il_1, il_1000000, jl_1000000, jv_neg, jc_lt (a := x) (b := 1000000), jc_gt (a := x) (b := -1000000), jv_int]
theorem iv_tdiv {a b : Int} (h : -1000000 ≤ a ∧ a ≤ 1000000 ∧ -1000000 ≤ b ∧ b ≤ 1000000) : iv a / iv b = iv (a.tdiv b) :=
  (Int32.ofInt_tdiv (by rw [Int32.toInt_minValue]; omega) (by rw [Int32.toInt_maxValue]; omega) (by rw [Int32.toInt_minValue]; omega) (by rw [Int32.toInt_maxValue]; omega) : Int32.ofInt (a.tdiv b) = Int32.ofInt a / Int32.ofInt b).symm
theorem jv_tdiv {a b : Int} (h : -1000000 ≤ a ∧ a ≤ 1000000 ∧ -1000000 ≤ b ∧ b ≤ 1000000) : jv a / jv b = jv (a.tdiv b) :=
  (Int64.ofInt_tdiv (by rw [Int64.toInt_minValue]; omega) (by rw [Int64.toInt_maxValue]; omega) (by rw [Int64.toInt_minValue]; omega) (by rw [Int64.toInt_maxValue]; omega) : Int64.ofInt (a.tdiv b) = Int64.ofInt a / Int64.ofInt b).symm
theorem mul_b {x y : Int} (hx : Bd x) (hy : Bd y) : -1000000000000 ≤ x * y ∧ x * y ≤ 1000000000000 := by
  have q : (x * y).natAbs ≤ 1000000 * 1000000 := by
    rw [Int.natAbs_mul]
    exact Nat.mul_le_mul (by unfold Bd at hx; omega) (by unfold Bd at hy; omega)
  omega
theorem y_ofTwo {c x y : Int} {h : Mem} (hx : Bd x) (hy : Bd y) (hc : 29 ≤ c ∧ c ≤ 32) : cA m_Asker_ofTwo [.int (iv c), .int (iv x), .int (iv y)] h = some (.int (iv (twV c x y)), h) := by
  have m := mul_b hx hy
  have hc4 : c = 29 ∨ c = 30 ∨ c = 31 ∨ c = 32 := by omega
  unfold twV
  unfold Bd at hx hy
  clear hc
  rcases hc4 with rfl | rfl | rfl | rfl
  · rw [if_pos rfl]
    simp (disch := first | decide | omega | (simp (disch := first | decide | omega) only [sv_s, sv_o, ur_s, ur_e, ur_o]; omega)) only [↓reduceIte, iv_add, iv_sub, iv_mul, iv_neg, iv_ltT, iv_ltF, iv_leT, iv_leF, iv_eqT, iv_eqF, iv_div, iv_mod, ↓bnI_s, ↓bnV_s, ↓bnJ_s, ↓bnR_s, rt_e, rt_0, rt_bz, sv_s, sv_o, ur_s, ur_e, ur_o, bz_T, bz_F, nat_eqF, Nat.reduceAdd, ↓q_Asker_ofTwo, ↓q_Asker_ofTwo_80, il_0, il_1, il_22, il_23, il_25, il_26, il_27, il_29, il_30, il_31, il_32, il_36, il_37, il_80, il_89, il_98, il_107, il_119, il_123, il_127, il_138, il_149, il_160, il_171, il_182, iv_long, jv_add, y_capped]
  · rw [if_neg (by decide), if_pos rfl]
    simp (disch := first | decide | omega | (simp (disch := first | decide | omega) only [sv_s, sv_o, ur_s, ur_e, ur_o]; omega)) only [↓reduceIte, iv_add, iv_sub, iv_mul, iv_neg, iv_ltT, iv_ltF, iv_leT, iv_leF, iv_eqT, iv_eqF, iv_div, iv_mod, ↓bnI_s, ↓bnV_s, ↓bnJ_s, ↓bnR_s, rt_e, rt_0, rt_bz, sv_s, sv_o, ur_s, ur_e, ur_o, bz_T, bz_F, nat_eqF, Nat.reduceAdd, ↓q_Asker_ofTwo, ↓q_Asker_ofTwo_89, il_0, il_1, il_22, il_23, il_25, il_26, il_27, il_29, il_30, il_31, il_32, il_36, il_37, il_80, il_89, il_98, il_107, il_119, il_123, il_127, il_138, il_149, il_160, il_171, il_182, iv_long, jv_sub, y_capped]
  · rw [if_neg (by decide), if_neg (by decide), if_pos rfl]
    generalize hw : x * y = w at *
    have e : jv x * jv y = jv w := by rw [jv_mul, hw]
    simp (disch := first | decide | omega | (simp (disch := first | decide | omega) only [sv_s, sv_o, ur_s, ur_e, ur_o]; omega)) only [↓reduceIte, iv_add, iv_sub, iv_mul, iv_neg, iv_ltT, iv_ltF, iv_leT, iv_leF, iv_eqT, iv_eqF, iv_div, iv_mod, ↓bnI_s, ↓bnV_s, ↓bnJ_s, ↓bnR_s, rt_e, rt_0, rt_bz, sv_s, sv_o, ur_s, ur_e, ur_o, bz_T, bz_F, nat_eqF, Nat.reduceAdd, ↓q_Asker_ofTwo, ↓q_Asker_ofTwo_98, il_0, il_1, il_22, il_23, il_25, il_26, il_27, il_29, il_30, il_31, il_32, il_36, il_37, il_80, il_89, il_98, il_107, il_119, il_123, il_127, il_138, il_149, il_160, il_171, il_182, iv_long, e, y_capped]
  · rw [if_neg (by decide), if_neg (by decide), if_neg (by decide)]
    by_cases q : y = 0
    · rw [if_pos q, q]
      simp (disch := first | decide | omega | (simp (disch := first | decide | omega) only [sv_s, sv_o, ur_s, ur_e, ur_o]; omega)) only [↓reduceIte, iv_add, iv_sub, iv_mul, iv_neg, iv_ltT, iv_ltF, iv_leT, iv_leF, iv_eqT, iv_eqF, iv_div, iv_mod, ↓bnI_s, ↓bnV_s, ↓bnJ_s, ↓bnR_s, rt_e, rt_0, rt_bz, sv_s, sv_o, ur_s, ur_e, ur_o, bz_T, bz_F, nat_eqF, Nat.reduceAdd, ↓q_Asker_ofTwo, ↓q_Asker_ofTwo_107, il_0, il_1, il_22, il_23, il_25, il_26, il_27, il_29, il_30, il_31, il_32, il_36, il_37, il_80, il_89, il_98, il_107, il_119, il_123, il_127, il_138, il_149, il_160, il_171, il_182]
    · rw [if_neg q]
      simp (disch := first | decide | omega | (simp (disch := first | decide | omega) only [sv_s, sv_o, ur_s, ur_e, ur_o]; omega)) only [↓reduceIte, iv_add, iv_sub, iv_mul, iv_neg, iv_ltT, iv_ltF, iv_leT, iv_leF, iv_eqT, iv_eqF, iv_mod, ↓bnI_s, ↓bnV_s, ↓bnJ_s, ↓bnR_s, rt_e, rt_0, rt_bz, sv_s, sv_o, ur_s, ur_e, ur_o, bz_T, bz_F, nat_eqF, Nat.reduceAdd, ↓q_Asker_ofTwo, ↓q_Asker_ofTwo_107, il_0, il_1, il_22, il_23, il_25, il_26, il_27, il_29, il_30, il_31, il_32, il_36, il_37, il_80, il_89, il_98, il_107, il_119, il_123, il_127, il_138, il_149, il_160, il_171, il_182, iv_tdiv]
theorem y_asked {c x y : Int} {h : Mem} (hx : Bd x) (hy : Bd y) (hc : (25 ≤ c ∧ c ≤ 28) ∨ c = 36 ∨ c = 37) : cA m_Asker_ofTwo [.int (iv c), .int (iv x), .int (iv y)] h = some (.int (iv (asV c x y)), h) := by
  have hc4 : c = 25 ∨ c = 26 ∨ c = 27 ∨ c = 28 ∨ c = 36 ∨ c = 37 := by omega
  unfold asV
  unfold Bd at hx hy
  clear hc
  rcases hc4 with rfl | rfl | rfl | rfl | rfl | rfl
  · rw [if_pos rfl]
    by_cases q : x < y
    · rw [bz_T q]
      simp (disch := first | decide | omega | (simp (disch := first | decide | omega) only [sv_s, sv_o, ur_s, ur_e, ur_o]; omega)) only [↓reduceIte, iv_add, iv_sub, iv_mul, iv_neg, iv_ltT, iv_ltF, iv_leT, iv_leF, iv_eqT, iv_eqF, iv_div, iv_mod, ↓bnI_s, ↓bnV_s, ↓bnJ_s, ↓bnR_s, rt_e, rt_0, rt_bz, sv_s, sv_o, ur_s, ur_e, ur_o, bz_T, bz_F, nat_eqF, Nat.reduceAdd, ↓q_Asker_ofTwo, ↓q_Asker_ofTwo_127, il_0, il_1, il_22, il_23, il_25, il_26, il_27, il_29, il_30, il_31, il_32, il_36, il_37, il_80, il_89, il_98, il_107, il_119, il_123, il_127, il_138, il_149, il_160, il_171, il_182]
    · rw [bz_F q]
      simp (disch := first | decide | omega | (simp (disch := first | decide | omega) only [sv_s, sv_o, ur_s, ur_e, ur_o]; omega)) only [↓reduceIte, iv_add, iv_sub, iv_mul, iv_neg, iv_ltT, iv_ltF, iv_leT, iv_leF, iv_eqT, iv_eqF, iv_div, iv_mod, ↓bnI_s, ↓bnV_s, ↓bnJ_s, ↓bnR_s, rt_e, rt_0, rt_bz, sv_s, sv_o, ur_s, ur_e, ur_o, bz_T, bz_F, nat_eqF, Nat.reduceAdd, ↓q_Asker_ofTwo, ↓q_Asker_ofTwo_127, il_0, il_1, il_22, il_23, il_25, il_26, il_27, il_29, il_30, il_31, il_32, il_36, il_37, il_80, il_89, il_98, il_107, il_119, il_123, il_127, il_138, il_149, il_160, il_171, il_182]
  · rw [if_neg (by decide), if_neg (by decide), if_pos rfl]
    by_cases q : y < x
    · rw [bz_T q]
      simp (disch := first | decide | omega | (simp (disch := first | decide | omega) only [sv_s, sv_o, ur_s, ur_e, ur_o]; omega)) only [↓reduceIte, iv_add, iv_sub, iv_mul, iv_neg, iv_ltT, iv_ltF, iv_leT, iv_leF, iv_eqT, iv_eqF, iv_div, iv_mod, ↓bnI_s, ↓bnV_s, ↓bnJ_s, ↓bnR_s, rt_e, rt_0, rt_bz, sv_s, sv_o, ur_s, ur_e, ur_o, bz_T, bz_F, nat_eqF, Nat.reduceAdd, ↓q_Asker_ofTwo, ↓q_Asker_ofTwo_149, il_0, il_1, il_22, il_23, il_25, il_26, il_27, il_29, il_30, il_31, il_32, il_36, il_37, il_80, il_89, il_98, il_107, il_119, il_123, il_127, il_138, il_149, il_160, il_171, il_182]
    · rw [bz_F q]
      simp (disch := first | decide | omega | (simp (disch := first | decide | omega) only [sv_s, sv_o, ur_s, ur_e, ur_o]; omega)) only [↓reduceIte, iv_add, iv_sub, iv_mul, iv_neg, iv_ltT, iv_ltF, iv_leT, iv_leF, iv_eqT, iv_eqF, iv_div, iv_mod, ↓bnI_s, ↓bnV_s, ↓bnJ_s, ↓bnR_s, rt_e, rt_0, rt_bz, sv_s, sv_o, ur_s, ur_e, ur_o, bz_T, bz_F, nat_eqF, Nat.reduceAdd, ↓q_Asker_ofTwo, ↓q_Asker_ofTwo_149, il_0, il_1, il_22, il_23, il_25, il_26, il_27, il_29, il_30, il_31, il_32, il_36, il_37, il_80, il_89, il_98, il_107, il_119, il_123, il_127, il_138, il_149, il_160, il_171, il_182]
  · rw [if_neg (by decide), if_neg (by decide), if_neg (by decide), if_neg (by decide), if_pos rfl]
    by_cases q : x = y
    · rw [bz_T q]
      simp (disch := first | decide | omega | (simp (disch := first | decide | omega) only [sv_s, sv_o, ur_s, ur_e, ur_o]; omega)) only [↓reduceIte, iv_add, iv_sub, iv_mul, iv_neg, iv_ltT, iv_ltF, iv_leT, iv_leF, iv_eqT, iv_eqF, iv_div, iv_mod, ↓bnI_s, ↓bnV_s, ↓bnJ_s, ↓bnR_s, rt_e, rt_0, rt_bz, sv_s, sv_o, ur_s, ur_e, ur_o, bz_T, bz_F, nat_eqF, Nat.reduceAdd, ↓q_Asker_ofTwo, ↓q_Asker_ofTwo_171, il_0, il_1, il_22, il_23, il_25, il_26, il_27, il_29, il_30, il_31, il_32, il_36, il_37, il_80, il_89, il_98, il_107, il_119, il_123, il_127, il_138, il_149, il_160, il_171, il_182]
    · rw [bz_F q]
      simp (disch := first | decide | omega | (simp (disch := first | decide | omega) only [sv_s, sv_o, ur_s, ur_e, ur_o]; omega)) only [↓reduceIte, iv_add, iv_sub, iv_mul, iv_neg, iv_ltT, iv_ltF, iv_leT, iv_leF, iv_eqT, iv_eqF, iv_div, iv_mod, ↓bnI_s, ↓bnV_s, ↓bnJ_s, ↓bnR_s, rt_e, rt_0, rt_bz, sv_s, sv_o, ur_s, ur_e, ur_o, bz_T, bz_F, nat_eqF, Nat.reduceAdd, ↓q_Asker_ofTwo, ↓q_Asker_ofTwo_171, il_0, il_1, il_22, il_23, il_25, il_26, il_27, il_29, il_30, il_31, il_32, il_36, il_37, il_80, il_89, il_98, il_107, il_119, il_123, il_127, il_138, il_149, il_160, il_171, il_182]
  · rw [if_neg (by decide), if_neg (by decide), if_neg (by decide), if_neg (by decide), if_neg (by decide), if_pos rfl]
    by_cases q : x = y
    · rw [bz_F (fun w => w q)]
      simp (disch := first | decide | omega | (simp (disch := first | decide | omega) only [sv_s, sv_o, ur_s, ur_e, ur_o]; omega)) only [↓reduceIte, iv_add, iv_sub, iv_mul, iv_neg, iv_ltT, iv_ltF, iv_leT, iv_leF, iv_eqT, iv_eqF, iv_div, iv_mod, ↓bnI_s, ↓bnV_s, ↓bnJ_s, ↓bnR_s, rt_e, rt_0, rt_bz, sv_s, sv_o, ur_s, ur_e, ur_o, bz_T, bz_F, nat_eqF, Nat.reduceAdd, ↓q_Asker_ofTwo, ↓q_Asker_ofTwo_182, il_0, il_1, il_22, il_23, il_25, il_26, il_27, il_29, il_30, il_31, il_32, il_36, il_37, il_80, il_89, il_98, il_107, il_119, il_123, il_127, il_138, il_149, il_160, il_171, il_182]
    · rw [bz_T q]
      simp (disch := first | decide | omega | (simp (disch := first | decide | omega) only [sv_s, sv_o, ur_s, ur_e, ur_o]; omega)) only [↓reduceIte, iv_add, iv_sub, iv_mul, iv_neg, iv_ltT, iv_ltF, iv_leT, iv_leF, iv_eqT, iv_eqF, iv_div, iv_mod, ↓bnI_s, ↓bnV_s, ↓bnJ_s, ↓bnR_s, rt_e, rt_0, rt_bz, sv_s, sv_o, ur_s, ur_e, ur_o, bz_T, bz_F, nat_eqF, Nat.reduceAdd, ↓q_Asker_ofTwo, ↓q_Asker_ofTwo_182, il_0, il_1, il_22, il_23, il_25, il_26, il_27, il_29, il_30, il_31, il_32, il_36, il_37, il_80, il_89, il_98, il_107, il_119, il_123, il_127, il_138, il_149, il_160, il_171, il_182]
  · rw [if_neg (by decide), if_pos rfl]
    by_cases q : x ≤ y
    · rw [bz_T q]
      simp (disch := first | decide | omega | (simp (disch := first | decide | omega) only [sv_s, sv_o, ur_s, ur_e, ur_o]; omega)) only [↓reduceIte, iv_add, iv_sub, iv_mul, iv_neg, iv_ltT, iv_ltF, iv_leT, iv_leF, iv_eqT, iv_eqF, iv_div, iv_mod, ↓bnI_s, ↓bnV_s, ↓bnJ_s, ↓bnR_s, rt_e, rt_0, rt_bz, sv_s, sv_o, ur_s, ur_e, ur_o, bz_T, bz_F, nat_eqF, Nat.reduceAdd, ↓q_Asker_ofTwo, ↓q_Asker_ofTwo_138, il_0, il_1, il_22, il_23, il_25, il_26, il_27, il_29, il_30, il_31, il_32, il_36, il_37, il_80, il_89, il_98, il_107, il_119, il_123, il_127, il_138, il_149, il_160, il_171, il_182]
    · rw [bz_F q]
      simp (disch := first | decide | omega | (simp (disch := first | decide | omega) only [sv_s, sv_o, ur_s, ur_e, ur_o]; omega)) only [↓reduceIte, iv_add, iv_sub, iv_mul, iv_neg, iv_ltT, iv_ltF, iv_leT, iv_leF, iv_eqT, iv_eqF, iv_div, iv_mod, ↓bnI_s, ↓bnV_s, ↓bnJ_s, ↓bnR_s, rt_e, rt_0, rt_bz, sv_s, sv_o, ur_s, ur_e, ur_o, bz_T, bz_F, nat_eqF, Nat.reduceAdd, ↓q_Asker_ofTwo, ↓q_Asker_ofTwo_138, il_0, il_1, il_22, il_23, il_25, il_26, il_27, il_29, il_30, il_31, il_32, il_36, il_37, il_80, il_89, il_98, il_107, il_119, il_123, il_127, il_138, il_149, il_160, il_171, il_182]
  · rw [if_neg (by decide), if_neg (by decide), if_neg (by decide), if_pos rfl]
    by_cases q : y ≤ x
    · rw [bz_T q]
      simp (disch := first | decide | omega | (simp (disch := first | decide | omega) only [sv_s, sv_o, ur_s, ur_e, ur_o]; omega)) only [↓reduceIte, iv_add, iv_sub, iv_mul, iv_neg, iv_ltT, iv_ltF, iv_leT, iv_leF, iv_eqT, iv_eqF, iv_div, iv_mod, ↓bnI_s, ↓bnV_s, ↓bnJ_s, ↓bnR_s, rt_e, rt_0, rt_bz, sv_s, sv_o, ur_s, ur_e, ur_o, bz_T, bz_F, nat_eqF, Nat.reduceAdd, ↓q_Asker_ofTwo, ↓q_Asker_ofTwo_160, il_0, il_1, il_22, il_23, il_25, il_26, il_27, il_29, il_30, il_31, il_32, il_36, il_37, il_80, il_89, il_98, il_107, il_119, il_123, il_127, il_138, il_149, il_160, il_171, il_182]
    · rw [bz_F q]
      simp (disch := first | decide | omega | (simp (disch := first | decide | omega) only [sv_s, sv_o, ur_s, ur_e, ur_o]; omega)) only [↓reduceIte, iv_add, iv_sub, iv_mul, iv_neg, iv_ltT, iv_ltF, iv_leT, iv_leF, iv_eqT, iv_eqF, iv_div, iv_mod, ↓bnI_s, ↓bnV_s, ↓bnJ_s, ↓bnR_s, rt_e, rt_0, rt_bz, sv_s, sv_o, ur_s, ur_e, ur_o, bz_T, bz_F, nat_eqF, Nat.reduceAdd, ↓q_Asker_ofTwo, ↓q_Asker_ofTwo_160, il_0, il_1, il_22, il_23, il_25, il_26, il_27, il_29, il_30, il_31, il_32, il_36, il_37, il_80, il_89, il_98, il_107, il_119, il_123, il_127, il_138, il_149, il_160, il_171, il_182]
theorem y_joined2 {c x y : Int} {h : Mem} (hx : x = 0 ∨ x = 1) (hy : y = 0 ∨ y = 1) (hc : c = 22 ∨ c = 23) : cA m_Asker_ofTwo [.int (iv c), .int (iv x), .int (iv y)] h = some (.int (iv (asV c x y)), h) := by
  rcases hc with rfl | rfl
  · have e : iv x ||| iv y = iv (asV 22 x y) := by
      rcases hx with rfl | rfl <;> rcases hy with rfl | rfl <;> rfl
    simp (disch := first | decide | omega | (simp (disch := first | decide | omega) only [sv_s, sv_o, ur_s, ur_e, ur_o]; omega)) only [↓reduceIte, iv_add, iv_sub, iv_mul, iv_neg, iv_ltT, iv_ltF, iv_leT, iv_leF, iv_eqT, iv_eqF, iv_div, iv_mod, ↓bnI_s, ↓bnV_s, ↓bnJ_s, ↓bnR_s, rt_e, rt_0, rt_bz, sv_s, sv_o, ur_s, ur_e, ur_o, bz_T, bz_F, nat_eqF, Nat.reduceAdd, ↓q_Asker_ofTwo, ↓q_Asker_ofTwo_123, il_0, il_1, il_22, il_23, il_25, il_26, il_27, il_29, il_30, il_31, il_32, il_36, il_37, il_80, il_89, il_98, il_107, il_119, il_123, il_127, il_138, il_149, il_160, il_171, il_182, e]
  · have e : iv x &&& iv y = iv (asV 23 x y) := by
      rcases hx with rfl | rfl <;> rcases hy with rfl | rfl <;> rfl
    simp (disch := first | decide | omega | (simp (disch := first | decide | omega) only [sv_s, sv_o, ur_s, ur_e, ur_o]; omega)) only [↓reduceIte, iv_add, iv_sub, iv_mul, iv_neg, iv_ltT, iv_ltF, iv_leT, iv_leF, iv_eqT, iv_eqF, iv_div, iv_mod, ↓bnI_s, ↓bnV_s, ↓bnJ_s, ↓bnR_s, rt_e, rt_0, rt_bz, sv_s, sv_o, ur_s, ur_e, ur_o, bz_T, bz_F, nat_eqF, Nat.reduceAdd, ↓q_Asker_ofTwo, ↓q_Asker_ofTwo_119, il_0, il_1, il_22, il_23, il_25, il_26, il_27, il_29, il_30, il_31, il_32, il_36, il_37, il_80, il_89, il_98, il_107, il_119, il_123, il_127, il_138, il_149, il_160, il_171, il_182, e]
theorem y_takes1 {c : Int} {h : Mem} (hc : c = 3 ∨ (10 ≤ c ∧ c ≤ 15) ∨ c = 38) : cA m_Asker_takesNone [.int (iv c)] h = some (.int (iv 1), h) := by
  have hc8 : c = 3 ∨ c = 10 ∨ c = 11 ∨ c = 12 ∨ c = 13 ∨ c = 14 ∨ c = 15 ∨ c = 38 := by omega
  clear hc
  rcases hc8 with rfl | rfl | rfl | rfl | rfl | rfl | rfl | rfl
  all_goals simp (disch := first | decide | omega | (simp (disch := first | decide | omega) only [sv_s, sv_o, ur_s, ur_e, ur_o]; omega)) only [↓reduceIte, iv_add, iv_sub, iv_mul, iv_neg, iv_ltT, iv_ltF, iv_leT, iv_leF, iv_eqT, iv_eqF, iv_div, iv_mod, ↓bnI_s, ↓bnV_s, ↓bnJ_s, ↓bnR_s, rt_e, rt_0, rt_bz, sv_s, sv_o, ur_s, ur_e, ur_o, bz_T, bz_F, nat_eqF, Nat.reduceAdd, ↓q_Asker_takesNone, ↓q_Kind_isName, il_0, il_1, il_3, il_10, il_15, il_38]
theorem y_takes0 {c : Int} {h : Mem} (hc : 16 ≤ c ∧ c ≤ 41 ∧ c ≠ 38) : cA m_Asker_takesNone [.int (iv c)] h = some (.int (iv 0), h) := by
  simp (disch := first | decide | omega | (simp (disch := first | decide | omega) only [sv_s, sv_o, ur_s, ur_e, ur_o]; omega)) only [↓reduceIte, iv_add, iv_sub, iv_mul, iv_neg, iv_ltT, iv_ltF, iv_leT, iv_leF, iv_eqT, iv_eqF, iv_div, iv_mod, ↓bnI_s, ↓bnV_s, ↓bnJ_s, ↓bnR_s, rt_e, rt_0, rt_bz, sv_s, sv_o, ur_s, ur_e, ur_o, bz_T, bz_F, nat_eqF, Nat.reduceAdd, ↓q_Asker_takesNone, ↓q_Kind_isName, il_0, il_1, il_3, il_10, il_15, il_38]
theorem y_takeo1 {c : Int} {h : Mem} (hc : c = 16 ∨ c = 17 ∨ c = 24 ∨ c = 41) : cA m_Asker_takesOne [.int (iv c)] h = some (.int (iv 1), h) := by
  rcases hc with rfl | rfl | rfl | rfl
  all_goals simp (disch := first | decide | omega | (simp (disch := first | decide | omega) only [sv_s, sv_o, ur_s, ur_e, ur_o]; omega)) only [↓reduceIte, iv_add, iv_sub, iv_mul, iv_neg, iv_ltT, iv_ltF, iv_leT, iv_leF, iv_eqT, iv_eqF, iv_div, iv_mod, ↓bnI_s, ↓bnV_s, ↓bnJ_s, ↓bnR_s, rt_e, rt_0, rt_bz, sv_s, sv_o, ur_s, ur_e, ur_o, bz_T, bz_F, nat_eqF, Nat.reduceAdd, ↓q_Asker_takesOne, il_0, il_1, il_16, il_17, il_24, il_41]
theorem y_takeo0 {c : Int} {h : Mem} (hc : c = 22 ∨ c = 23 ∨ (25 ≤ c ∧ c ≤ 32) ∨ c = 36 ∨ c = 37) : cA m_Asker_takesOne [.int (iv c)] h = some (.int (iv 0), h) := by
  have hc8 : c = 22 ∨ c = 23 ∨ (25 ≤ c ∧ c ≤ 37) := by omega
  clear hc
  rcases hc8 with rfl | rfl | hc
  all_goals simp (disch := first | decide | omega | (simp (disch := first | decide | omega) only [sv_s, sv_o, ur_s, ur_e, ur_o]; omega)) only [↓reduceIte, iv_add, iv_sub, iv_mul, iv_neg, iv_ltT, iv_ltF, iv_leT, iv_leF, iv_eqT, iv_eqF, iv_div, iv_mod, ↓bnI_s, ↓bnV_s, ↓bnJ_s, ↓bnR_s, rt_e, rt_0, rt_bz, sv_s, sv_o, ur_s, ur_e, ur_o, bz_T, bz_F, nat_eqF, Nat.reduceAdd, ↓q_Asker_takesOne, il_0, il_1, il_16, il_17, il_24, il_41]
