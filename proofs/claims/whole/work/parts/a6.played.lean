/-! A TEXT, PLAYED -/
def Pb (r : Rs) : Prop := ∀ v h, r = some (v, h) → v = .int 0 ∨ v = .int 1
theorem Pb_no : Pb none := fun v h e => by cases e
theorem Pb_rt {a : Int32} {h : Mem} : Pb (rtN 1 a h) := fun v g e => by
  have e : (if a = 0 ∨ a = 1 then some (Value.int a, h) else none) = some (v, g) := e
  by_cases q : a = 0 ∨ a = 1
  · rw [if_pos q] at e
    cases e
    rcases q with q | q
    · exact Or.inl (by rw [q])
    · exact Or.inr (by rw [q])
  · rw [if_neg q] at e
    cases e
theorem Pb_if {c : Prop} [Decidable c] {a b : Rs} (ha : Pb a) (hb : Pb b) : Pb (if c then a else b) := by
  by_cases q : c
  · rw [if_pos q]; exact ha
  · rw [if_neg q]; exact hb
theorem Pb_grd {c : Bool} {a : Rs} (ha : Pb a) : Pb (grd c a) := by
  cases c
  · exact Pb_no
  · exact ha
theorem Pb_bnI {r : Rs} {f : Int32 → Mem → Rs} (h : ∀ x g, Pb (f x g)) : Pb (bnI r f) := by
  unfold bnI
  split
  · exact h _ _
  · exact Pb_no
theorem Pb_bnV {r : Rs} {f : Mem → Rs} (h : ∀ g, Pb (f g)) : Pb (bnV r f) := by
  unfold bnV
  split
  · exact h _
  · exact Pb_no
theorem Pb_gfR {g : Mem} {ci k a : Nat} {f : Nat → Rs} (h : ∀ x, Pb (f x)) : Pb (gfR g ci k a f) := by
  unfold gfR
  split
  · exact h _
  · exact Pb_no
theorem Pb_down {x0 : Nat} {x1 x2 : Int32} {h : Mem} : Pb (cA m_X_down [.ref x0, .int x1, .int x2] h) := by
  rw [q_X_down]
  exact Pb_grd (Pb_bnI fun _ _ => Pb_if Pb_rt (Pb_gfR fun _ => Pb_gfR fun _ => Pb_bnI fun _ _ => Pb_if Pb_rt (Pb_gfR fun _ => Pb_bnV fun _ => Pb_gfR fun _ => Pb_gfR fun _ => Pb_bnV fun _ => Pb_rt)))
theorem Pb_strap {x0 : Nat} {x1 : Int32} {h : Mem} : Pb (cA m_X_strap [.ref x0, .int x1] h) := by
  rw [q_X_strap]
  exact Pb_grd (Pb_gfR fun _ => Pb_gfR fun _ => Pb_bnI fun _ _ => Pb_if Pb_rt (Pb_gfR fun _ => Pb_bnV fun _ => Pb_gfR fun _ => Pb_gfR fun _ => Pb_bnV fun _ => Pb_rt))
theorem Pb_swap {x0 : Nat} {x1 x2 : Int32} {h : Mem} : Pb (cA m_X_swap [.ref x0, .int x1, .int x2] h) := by
  rw [q_X_swap]
  exact Pb_grd (Pb_gfR fun _ => Pb_gfR fun _ => Pb_bnI fun _ _ => Pb_if Pb_rt (Pb_gfR fun _ => Pb_bnV fun _ => Pb_gfR fun _ => Pb_gfR fun _ => Pb_bnV fun _ => Pb_rt))
theorem Pb.e {r : Rs} (p : Pb r) {e : Int} {h : Mem} (q : r = some (.int (iv e), h)) (hr : -1 ≤ e ∧ e < 20000) : e = 0 ∨ e = 1 := by
  rcases p _ _ q with h | h
  · have := Value.int.inj h
    by_cases w : e = 0
    · exact Or.inl w
    · exact absurd this (of_eq_false (iv_eqF (a := e) (b := 0) (by omega)))
  · have := Value.int.inj h
    by_cases w : e = 1
    · exact Or.inr w
    · exact absurd this (of_eq_false (iv_eqF (a := e) (b := 1) (by omega)))
/-- a pair of calls, apart, whatever is answered -/
def De (z : Zz) (V0 : Vm) (X M : Mem → Rs) : Prop := ∀ V J A, Mid V0 V A → ∃ e A' V' J', X (em V J z) = some (.int (iv e), em V' J' z) ∧ Mid V0 V' A' ∧ ∀ U K, U 436 = A → U 438 = V0 438 → U 435 23 = 1 → ∃ U' K', M (em U K z) = some (.int (iv e), em U' K' z) ∧ U' 436 = A' ∧ frM U U'
section
variable {V V0 J U K : Vm} {A : Int → Int} {z : Zz} {I0 : Nat → Nat → Int32} {q : Nat} {i : Int} {rv bv : (Int → Int) → Int → Int}
theorem De.pc {TX : Vm → Zz → Nat → Int → Prop} (T : TXok TX) {X M : Mem → Rs} (g : GI TX I0 V z) (h : De z V X M) : Pc TX I0 V J z X M := by
  obtain ⟨e, A', V', J', e1, m, e2⟩ := h V J (V 436) (Mid.start TX g)
  have r6 : V' 436 = V 436 := m.row (by omega)
  obtain ⟨U', K', f1, f2, f3⟩ := e2 V' J' r6 (m.row (by omega)) (by rw [m.1 435 23 (scr_F (by omega)) (by omega) (by omega) (by omega)]; exact g.2.2.2.2.2.2.1)
  have ur' : ∀ a, 9 ≤ a → a < 210 → U' a = V' a := fun a h1 h2 => funext fun k => f3 a k (Or.inl (scr_F (by omega))) (by omega)
  have ks := KS_c ur' m.2.1
  refine ⟨e, V', J', U', K', e1, f1, GI_K T g (fun a k s h1 h2 h3 h4 => (f3 a k (Or.inl s) h4).trans (m.1 a k s h1 h2 h3)) (fun k hk => ?_) ?_ ?_ ?_⟩
  · rw [f2]; exact m.2.2.1 k hk
  · rw [f2]; exact m.2.2.2
  · rw [f2]; exact ks.1
  · rw [f2]; exact ks.2
theorem y_done (F : Fix z) (L : Lc z V0 q i rv bv) {u a b s v w x : Int} (c : CLR u a b s v w) (hx : 0 ≤ x ∧ x ≤ 2700) (m : Mid V0 V A) : ∃ d A' V' J', cA m_X_done [.ref 8, .int (iv u), .int (iv a), .int (iv b)] (em V J z) = some (.int (iv d), em V' J' z) ∧ Mid V0 V' A' ∧ (d = 0 ∨ d = 1) ∧ ∀ U K, U 436 = A → U 438 = V0 438 → U 435 23 = 1 → V0 438 x = s → V0 438 (x + 1) = v → V0 438 (x + 2) = w → ∃ U' K', cA m_M_isPlayed [.ref 435, .int (iv x)] (em U K z) = some (.int (iv d), em U' K' z) ∧ U' 436 = A' ∧ frM U U' := by
  rcases c with ⟨rfl, rfl⟩ | ⟨rfl, rfl⟩ | ⟨rfl, rfl, rfl, rfl, ha, hb⟩ | ⟨rfl, rfl, rfl, ha⟩ | ⟨rfl, rfl, rfl, rfl, ha, hb⟩ | ⟨rfl, rfl, rfl, ha⟩ | ⟨rfl, rfl, rfl, rfl, ha, hb⟩ | ⟨rfl, rfl, rfl, ha⟩
  · refine ⟨1, A, V, J, by simp (disch := first | decide | omega | (simp (disch := first | decide | omega) only [sv_s, sv_o, ur_s, ur_e, ur_o]; omega)) only [↓reduceIte, iv_add, iv_sub, iv_mul, iv_neg, iv_ltT, iv_ltF, iv_leT, iv_leF, iv_eqT, iv_eqF, iv_div, iv_mod, ↓bnI_s, ↓bnV_s, ↓bnJ_s, ↓bnR_s, rt_e, rt_0, rt_bz, sv_s, sv_o, ur_s, ur_e, ur_o, bz_T, bz_F, nat_eqF, Nat.reduceAdd, ↓q_X_done, ↓gR_8_0 F, ↓gR_9_0 F, ↓gI_10_7 F, ↓gR_8_3 F, ↓gd_8 F, il_0, il_1, il_2, il_3, il_4, il_5, il_7, il_8, il_10, il_26, il_9999], m, Or.inr rfl, fun U K hU h8 h23 x1 x2 x3 => ⟨U, K, ?_, hU, frM.rfl_⟩⟩
    rw [← h8] at x1
    simp (disch := first | decide | omega | (simp (disch := first | decide | omega) only [sv_s, sv_o, ur_s, ur_e, ur_o]; omega)) only [↓reduceIte, iv_add, iv_sub, iv_mul, iv_neg, iv_ltT, iv_ltF, iv_leT, iv_leF, iv_eqT, iv_eqF, iv_div, iv_mod, ↓bnI_s, ↓bnV_s, ↓bnJ_s, ↓bnR_s, rt_e, rt_0, rt_bz, sv_s, sv_o, ur_s, ur_e, ur_o, bz_T, bz_F, nat_eqF, Nat.reduceAdd, ↓q_M_isPlayed, ↓gR_435_2 F, ↓lI_436 F, ↓lI_437 F, ↓lI_438 F, ↓lI_439 F, ↓lI_440 F, ↓lI_441 F, ↓lI_443 F, ↓lI_444 F, ↓lI_445 F, ↓lI_446 F, ↓lI_447 F, ↓lI_448 F, ↓lI_449 F, ↓lI_450 F, ↓gd_435 F, il_0, il_1, il_2, il_3, il_4, il_5, il_6, il_7, il_11, il_27, x1]
  · refine ⟨1, A, V, J, by simp (disch := first | decide | omega | (simp (disch := first | decide | omega) only [sv_s, sv_o, ur_s, ur_e, ur_o]; omega)) only [↓reduceIte, iv_add, iv_sub, iv_mul, iv_neg, iv_ltT, iv_ltF, iv_leT, iv_leF, iv_eqT, iv_eqF, iv_div, iv_mod, ↓bnI_s, ↓bnV_s, ↓bnJ_s, ↓bnR_s, rt_e, rt_0, rt_bz, sv_s, sv_o, ur_s, ur_e, ur_o, bz_T, bz_F, nat_eqF, Nat.reduceAdd, ↓q_X_done, ↓gR_8_0 F, ↓gR_9_0 F, ↓gI_10_7 F, ↓gR_8_3 F, ↓gd_8 F, il_0, il_1, il_2, il_3, il_4, il_5, il_7, il_8, il_10, il_26, il_9999], m, Or.inr rfl, fun U K hU h8 h23 x1 x2 x3 => ⟨U, K, ?_, hU, frM.rfl_⟩⟩
    rw [← h8] at x1
    simp (disch := first | decide | omega | (simp (disch := first | decide | omega) only [sv_s, sv_o, ur_s, ur_e, ur_o]; omega)) only [↓reduceIte, iv_add, iv_sub, iv_mul, iv_neg, iv_ltT, iv_ltF, iv_leT, iv_leF, iv_eqT, iv_eqF, iv_div, iv_mod, ↓bnI_s, ↓bnV_s, ↓bnJ_s, ↓bnR_s, rt_e, rt_0, rt_bz, sv_s, sv_o, ur_s, ur_e, ur_o, bz_T, bz_F, nat_eqF, Nat.reduceAdd, ↓q_M_isPlayed, ↓gR_435_2 F, ↓lI_436 F, ↓lI_437 F, ↓lI_438 F, ↓lI_439 F, ↓lI_440 F, ↓lI_441 F, ↓lI_443 F, ↓lI_444 F, ↓lI_445 F, ↓lI_446 F, ↓lI_447 F, ↓lI_448 F, ↓lI_449 F, ↓lI_450 F, ↓gd_435 F, il_0, il_1, il_2, il_3, il_4, il_5, il_6, il_7, il_11, il_27, x1]
  · obtain ⟨e, A', V', J', e1, e2, e3, e4⟩ := d_kin (V0 := V0) F (a := v) (b := w) (by omega) (by omega) V J A m
    have e1 : cA m_X_kin [.ref 8, .int (iv v), .int (iv w)] (em V J z) = some (.int (iv e), em V' J' z) := e1
    by_cases q1 : e = -1
    · subst q1
      refine ⟨0, A', V', J', by simp (disch := first | decide | omega | (simp (disch := first | decide | omega) only [sv_s, sv_o, ur_s, ur_e, ur_o]; omega)) only [↓reduceIte, iv_add, iv_sub, iv_mul, iv_neg, iv_ltT, iv_ltF, iv_leT, iv_leF, iv_eqT, iv_eqF, iv_div, iv_mod, ↓bnI_s, ↓bnV_s, ↓bnJ_s, ↓bnR_s, rt_e, rt_0, rt_bz, sv_s, sv_o, ur_s, ur_e, ur_o, bz_T, bz_F, nat_eqF, Nat.reduceAdd, ↓q_X_done, ↓gR_8_0 F, ↓gR_9_0 F, ↓gI_10_7 F, ↓gR_8_3 F, ↓gd_8 F, il_0, il_1, il_2, il_3, il_4, il_5, il_7, il_8, il_10, il_26, il_9999, e1], e2, Or.inl rfl, fun U K hU h8 h23 x1 x2 x3 => ?_⟩
      obtain ⟨U', K', f1, f2, f3⟩ := e4 U K hU h8 h23
      have f1 : cA m_M_kin [.ref 435, .int (iv v), .int (iv w)] (em U K z) = some (.int (iv (-1)), em U' K' z) := f1
      rw [← h8] at x1 x2 x3
      exact ⟨U', K', by simp (disch := first | decide | omega | (simp (disch := first | decide | omega) only [sv_s, sv_o, ur_s, ur_e, ur_o]; omega)) only [↓reduceIte, iv_add, iv_sub, iv_mul, iv_neg, iv_ltT, iv_ltF, iv_leT, iv_leF, iv_eqT, iv_eqF, iv_div, iv_mod, ↓bnI_s, ↓bnV_s, ↓bnJ_s, ↓bnR_s, rt_e, rt_0, rt_bz, sv_s, sv_o, ur_s, ur_e, ur_o, bz_T, bz_F, nat_eqF, Nat.reduceAdd, ↓q_M_isPlayed, ↓gR_435_2 F, ↓lI_436 F, ↓lI_437 F, ↓lI_438 F, ↓lI_439 F, ↓lI_440 F, ↓lI_441 F, ↓lI_443 F, ↓lI_444 F, ↓lI_445 F, ↓lI_446 F, ↓lI_447 F, ↓lI_448 F, ↓lI_449 F, ↓lI_450 F, ↓gd_435 F, il_0, il_1, il_2, il_3, il_4, il_5, il_6, il_7, il_11, il_27, x1, x2, x3, f1], f2, f3⟩
    · refine ⟨1, A', V', J', by simp (disch := first | decide | omega | (simp (disch := first | decide | omega) only [sv_s, sv_o, ur_s, ur_e, ur_o]; omega)) only [↓reduceIte, iv_add, iv_sub, iv_mul, iv_neg, iv_ltT, iv_ltF, iv_leT, iv_leF, iv_eqT, iv_eqF, iv_div, iv_mod, ↓bnI_s, ↓bnV_s, ↓bnJ_s, ↓bnR_s, rt_e, rt_0, rt_bz, sv_s, sv_o, ur_s, ur_e, ur_o, bz_T, bz_F, nat_eqF, Nat.reduceAdd, ↓q_X_done, ↓gR_8_0 F, ↓gR_9_0 F, ↓gI_10_7 F, ↓gR_8_3 F, ↓gd_8 F, il_0, il_1, il_2, il_3, il_4, il_5, il_7, il_8, il_10, il_26, il_9999, e1], e2, Or.inr rfl, fun U K hU h8 h23 x1 x2 x3 => ?_⟩
      obtain ⟨U', K', f1, f2, f3⟩ := e4 U K hU h8 h23
      have f1 : cA m_M_kin [.ref 435, .int (iv v), .int (iv w)] (em U K z) = some (.int (iv e), em U' K' z) := f1
      rw [← h8] at x1 x2 x3
      exact ⟨U', K', by simp (disch := first | decide | omega | (simp (disch := first | decide | omega) only [sv_s, sv_o, ur_s, ur_e, ur_o]; omega)) only [↓reduceIte, iv_add, iv_sub, iv_mul, iv_neg, iv_ltT, iv_ltF, iv_leT, iv_leF, iv_eqT, iv_eqF, iv_div, iv_mod, ↓bnI_s, ↓bnV_s, ↓bnJ_s, ↓bnR_s, rt_e, rt_0, rt_bz, sv_s, sv_o, ur_s, ur_e, ur_o, bz_T, bz_F, nat_eqF, Nat.reduceAdd, ↓q_M_isPlayed, ↓gR_435_2 F, ↓lI_436 F, ↓lI_437 F, ↓lI_438 F, ↓lI_439 F, ↓lI_440 F, ↓lI_441 F, ↓lI_443 F, ↓lI_444 F, ↓lI_445 F, ↓lI_446 F, ↓lI_447 F, ↓lI_448 F, ↓lI_449 F, ↓lI_450 F, ↓gd_435 F, il_0, il_1, il_2, il_3, il_4, il_5, il_6, il_7, il_11, il_27, x1, x2, x3, f1], f2, f3⟩
  · obtain ⟨e, A', V', J', e1, e2, e3, e4⟩ := d_reach (V0 := V0) F (k := v) (by omega) V J A m
    have e1 : cA m_X_reach [.ref 8, .int (iv v)] (em V J z) = some (.int (iv e), em V' J' z) := e1
    by_cases q1 : e = -1
    · subst q1
      refine ⟨0, A', V', J', by simp (disch := first | decide | omega | (simp (disch := first | decide | omega) only [sv_s, sv_o, ur_s, ur_e, ur_o]; omega)) only [↓reduceIte, iv_add, iv_sub, iv_mul, iv_neg, iv_ltT, iv_ltF, iv_leT, iv_leF, iv_eqT, iv_eqF, iv_div, iv_mod, ↓bnI_s, ↓bnV_s, ↓bnJ_s, ↓bnR_s, rt_e, rt_0, rt_bz, sv_s, sv_o, ur_s, ur_e, ur_o, bz_T, bz_F, nat_eqF, Nat.reduceAdd, ↓q_X_done, ↓gR_8_0 F, ↓gR_9_0 F, ↓gI_10_7 F, ↓gR_8_3 F, ↓gd_8 F, il_0, il_1, il_2, il_3, il_4, il_5, il_7, il_8, il_10, il_26, il_9999, e1], e2, Or.inl rfl, fun U K hU h8 h23 x1 x2 x3 => ?_⟩
      obtain ⟨U', K', f1, f2, f3⟩ := e4 U K hU h8 h23
      have f1 : cA m_M_reach [.ref 435, .int (iv v)] (em U K z) = some (.int (iv (-1)), em U' K' z) := f1
      rw [← h8] at x1 x2
      exact ⟨U', K', by simp (disch := first | decide | omega | (simp (disch := first | decide | omega) only [sv_s, sv_o, ur_s, ur_e, ur_o]; omega)) only [↓reduceIte, iv_add, iv_sub, iv_mul, iv_neg, iv_ltT, iv_ltF, iv_leT, iv_leF, iv_eqT, iv_eqF, iv_div, iv_mod, ↓bnI_s, ↓bnV_s, ↓bnJ_s, ↓bnR_s, rt_e, rt_0, rt_bz, sv_s, sv_o, ur_s, ur_e, ur_o, bz_T, bz_F, nat_eqF, Nat.reduceAdd, ↓q_M_isPlayed, ↓gR_435_2 F, ↓lI_436 F, ↓lI_437 F, ↓lI_438 F, ↓lI_439 F, ↓lI_440 F, ↓lI_441 F, ↓lI_443 F, ↓lI_444 F, ↓lI_445 F, ↓lI_446 F, ↓lI_447 F, ↓lI_448 F, ↓lI_449 F, ↓lI_450 F, ↓gd_435 F, il_0, il_1, il_2, il_3, il_4, il_5, il_6, il_7, il_11, il_27, x1, x2, f1], f2, f3⟩
    · refine ⟨1, A', V', J', by simp (disch := first | decide | omega | (simp (disch := first | decide | omega) only [sv_s, sv_o, ur_s, ur_e, ur_o]; omega)) only [↓reduceIte, iv_add, iv_sub, iv_mul, iv_neg, iv_ltT, iv_ltF, iv_leT, iv_leF, iv_eqT, iv_eqF, iv_div, iv_mod, ↓bnI_s, ↓bnV_s, ↓bnJ_s, ↓bnR_s, rt_e, rt_0, rt_bz, sv_s, sv_o, ur_s, ur_e, ur_o, bz_T, bz_F, nat_eqF, Nat.reduceAdd, ↓q_X_done, ↓gR_8_0 F, ↓gR_9_0 F, ↓gI_10_7 F, ↓gR_8_3 F, ↓gd_8 F, il_0, il_1, il_2, il_3, il_4, il_5, il_7, il_8, il_10, il_26, il_9999, e1], e2, Or.inr rfl, fun U K hU h8 h23 x1 x2 x3 => ?_⟩
      obtain ⟨U', K', f1, f2, f3⟩ := e4 U K hU h8 h23
      have f1 : cA m_M_reach [.ref 435, .int (iv v)] (em U K z) = some (.int (iv e), em U' K' z) := f1
      rw [← h8] at x1 x2
      exact ⟨U', K', by simp (disch := first | decide | omega | (simp (disch := first | decide | omega) only [sv_s, sv_o, ur_s, ur_e, ur_o]; omega)) only [↓reduceIte, iv_add, iv_sub, iv_mul, iv_neg, iv_ltT, iv_ltF, iv_leT, iv_leF, iv_eqT, iv_eqF, iv_div, iv_mod, ↓bnI_s, ↓bnV_s, ↓bnJ_s, ↓bnR_s, rt_e, rt_0, rt_bz, sv_s, sv_o, ur_s, ur_e, ur_o, bz_T, bz_F, nat_eqF, Nat.reduceAdd, ↓q_M_isPlayed, ↓gR_435_2 F, ↓lI_436 F, ↓lI_437 F, ↓lI_438 F, ↓lI_439 F, ↓lI_440 F, ↓lI_441 F, ↓lI_443 F, ↓lI_444 F, ↓lI_445 F, ↓lI_446 F, ↓lI_447 F, ↓lI_448 F, ↓lI_449 F, ↓lI_450 F, ↓gd_435 F, il_0, il_1, il_2, il_3, il_4, il_5, il_6, il_7, il_11, il_27, x1, x2, f1], f2, f3⟩
  · obtain ⟨e, A', V', J', e1, e2, e3, e4⟩ := d_down (V0 := V0) F (k := v) (x := w) (by omega) (by omega) V J A m
    have e1 : cA m_X_down [.ref 8, .int (iv v), .int (iv w)] (em V J z) = some (.int (iv e), em V' J' z) := e1
    have e01 := Pb_down.e e1 e3
    refine ⟨e, A', V', J', by simp (disch := first | decide | omega | (simp (disch := first | decide | omega) only [sv_s, sv_o, ur_s, ur_e, ur_o]; omega)) only [↓reduceIte, iv_add, iv_sub, iv_mul, iv_neg, iv_ltT, iv_ltF, iv_leT, iv_leF, iv_eqT, iv_eqF, iv_div, iv_mod, ↓bnI_s, ↓bnV_s, ↓bnJ_s, ↓bnR_s, rt_e, rt_0, rt_bz, sv_s, sv_o, ur_s, ur_e, ur_o, bz_T, bz_F, nat_eqF, Nat.reduceAdd, ↓q_X_done, ↓gR_8_0 F, ↓gR_9_0 F, ↓gI_10_7 F, ↓gR_8_3 F, ↓gd_8 F, il_0, il_1, il_2, il_3, il_4, il_5, il_7, il_8, il_10, il_26, il_9999, e1], e2, e01, fun U K hU h8 h23 x1 x2 x3 => ?_⟩
    obtain ⟨U', K', f1, f2, f3⟩ := e4 U K hU h8 h23
    have f1 : cA m_M_down [.ref 435, .int (iv v), .int (iv w)] (em U K z) = some (.int (iv e), em U' K' z) := f1
    rw [← h8] at x1 x2 x3
    exact ⟨U', K', by simp (disch := first | decide | omega | (simp (disch := first | decide | omega) only [sv_s, sv_o, ur_s, ur_e, ur_o]; omega)) only [↓reduceIte, iv_add, iv_sub, iv_mul, iv_neg, iv_ltT, iv_ltF, iv_leT, iv_leF, iv_eqT, iv_eqF, iv_div, iv_mod, ↓bnI_s, ↓bnV_s, ↓bnJ_s, ↓bnR_s, rt_e, rt_0, rt_bz, sv_s, sv_o, ur_s, ur_e, ur_o, bz_T, bz_F, nat_eqF, Nat.reduceAdd, ↓q_M_isPlayed, ↓gR_435_2 F, ↓lI_436 F, ↓lI_437 F, ↓lI_438 F, ↓lI_439 F, ↓lI_440 F, ↓lI_441 F, ↓lI_443 F, ↓lI_444 F, ↓lI_445 F, ↓lI_446 F, ↓lI_447 F, ↓lI_448 F, ↓lI_449 F, ↓lI_450 F, ↓gd_435 F, il_0, il_1, il_2, il_3, il_4, il_5, il_6, il_7, il_11, il_27, x1, x2, x3, f1], f2, f3⟩
  · obtain ⟨e, A', V', J', e1, e2, e3, e4⟩ := d_strap (V0 := V0) F (k := v) (by omega) V J A m
    have e1 : cA m_X_strap [.ref 8, .int (iv v)] (em V J z) = some (.int (iv e), em V' J' z) := e1
    have e01 := Pb_strap.e e1 e3
    refine ⟨e, A', V', J', by simp (disch := first | decide | omega | (simp (disch := first | decide | omega) only [sv_s, sv_o, ur_s, ur_e, ur_o]; omega)) only [↓reduceIte, iv_add, iv_sub, iv_mul, iv_neg, iv_ltT, iv_ltF, iv_leT, iv_leF, iv_eqT, iv_eqF, iv_div, iv_mod, ↓bnI_s, ↓bnV_s, ↓bnJ_s, ↓bnR_s, rt_e, rt_0, rt_bz, sv_s, sv_o, ur_s, ur_e, ur_o, bz_T, bz_F, nat_eqF, Nat.reduceAdd, ↓q_X_done, ↓gR_8_0 F, ↓gR_9_0 F, ↓gI_10_7 F, ↓gR_8_3 F, ↓gd_8 F, il_0, il_1, il_2, il_3, il_4, il_5, il_7, il_8, il_10, il_26, il_9999, e1], e2, e01, fun U K hU h8 h23 x1 x2 x3 => ?_⟩
    obtain ⟨U', K', f1, f2, f3⟩ := e4 U K hU h8 h23
    have f1 : cA m_M_strap [.ref 435, .int (iv v)] (em U K z) = some (.int (iv e), em U' K' z) := f1
    rw [← h8] at x1 x2
    exact ⟨U', K', by simp (disch := first | decide | omega | (simp (disch := first | decide | omega) only [sv_s, sv_o, ur_s, ur_e, ur_o]; omega)) only [↓reduceIte, iv_add, iv_sub, iv_mul, iv_neg, iv_ltT, iv_ltF, iv_leT, iv_leF, iv_eqT, iv_eqF, iv_div, iv_mod, ↓bnI_s, ↓bnV_s, ↓bnJ_s, ↓bnR_s, rt_e, rt_0, rt_bz, sv_s, sv_o, ur_s, ur_e, ur_o, bz_T, bz_F, nat_eqF, Nat.reduceAdd, ↓q_M_isPlayed, ↓gR_435_2 F, ↓lI_436 F, ↓lI_437 F, ↓lI_438 F, ↓lI_439 F, ↓lI_440 F, ↓lI_441 F, ↓lI_443 F, ↓lI_444 F, ↓lI_445 F, ↓lI_446 F, ↓lI_447 F, ↓lI_448 F, ↓lI_449 F, ↓lI_450 F, ↓gd_435 F, il_0, il_1, il_2, il_3, il_4, il_5, il_6, il_7, il_11, il_27, x1, x2, f1], f2, f3⟩
  · obtain ⟨e, A', V', J', e1, e2, e3, e4⟩ := d_swap (V0 := V0) F (a := v) (b := w) (by omega) (by omega) V J A m
    have e1 : cA m_X_swap [.ref 8, .int (iv v), .int (iv w)] (em V J z) = some (.int (iv e), em V' J' z) := e1
    have e01 := Pb_swap.e e1 e3
    refine ⟨e, A', V', J', by simp (disch := first | decide | omega | (simp (disch := first | decide | omega) only [sv_s, sv_o, ur_s, ur_e, ur_o]; omega)) only [↓reduceIte, iv_add, iv_sub, iv_mul, iv_neg, iv_ltT, iv_ltF, iv_leT, iv_leF, iv_eqT, iv_eqF, iv_div, iv_mod, ↓bnI_s, ↓bnV_s, ↓bnJ_s, ↓bnR_s, rt_e, rt_0, rt_bz, sv_s, sv_o, ur_s, ur_e, ur_o, bz_T, bz_F, nat_eqF, Nat.reduceAdd, ↓q_X_done, ↓gR_8_0 F, ↓gR_9_0 F, ↓gI_10_7 F, ↓gR_8_3 F, ↓gd_8 F, il_0, il_1, il_2, il_3, il_4, il_5, il_7, il_8, il_10, il_26, il_9999, e1], e2, e01, fun U K hU h8 h23 x1 x2 x3 => ?_⟩
    obtain ⟨U', K', f1, f2, f3⟩ := e4 U K hU h8 h23
    have f1 : cA m_M_swap [.ref 435, .int (iv v), .int (iv w)] (em U K z) = some (.int (iv e), em U' K' z) := f1
    rw [← h8] at x1 x2 x3
    exact ⟨U', K', by simp (disch := first | decide | omega | (simp (disch := first | decide | omega) only [sv_s, sv_o, ur_s, ur_e, ur_o]; omega)) only [↓reduceIte, iv_add, iv_sub, iv_mul, iv_neg, iv_ltT, iv_ltF, iv_leT, iv_leF, iv_eqT, iv_eqF, iv_div, iv_mod, ↓bnI_s, ↓bnV_s, ↓bnJ_s, ↓bnR_s, rt_e, rt_0, rt_bz, sv_s, sv_o, ur_s, ur_e, ur_o, bz_T, bz_F, nat_eqF, Nat.reduceAdd, ↓q_M_isPlayed, ↓gR_435_2 F, ↓lI_436 F, ↓lI_437 F, ↓lI_438 F, ↓lI_439 F, ↓lI_440 F, ↓lI_441 F, ↓lI_443 F, ↓lI_444 F, ↓lI_445 F, ↓lI_446 F, ↓lI_447 F, ↓lI_448 F, ↓lI_449 F, ↓lI_450 F, ↓gd_435 F, il_0, il_1, il_2, il_3, il_4, il_5, il_6, il_7, il_11, il_27, x1, x2, x3, f1], f2, f3⟩
  · have e71 : V 10 7 = A 7 := m.2.1.1.2.2.2.2.2.2.1.1
    have a7 := m.2.1.1.2.2.2.2.2.2.1.2
    obtain ⟨A', V', d, e1, e2, e3, e4⟩ := y_dine (J := J) F L (n := v) (by omega) m
    by_cases h2 : A 7 + v ≤ 9999
    · refine ⟨1, A', V', J, by simp (disch := first | decide | omega | (simp (disch := first | decide | omega) only [sv_s, sv_o, ur_s, ur_e, ur_o]; omega)) only [↓reduceIte, iv_add, iv_sub, iv_mul, iv_neg, iv_ltT, iv_ltF, iv_leT, iv_leF, iv_eqT, iv_eqF, iv_div, iv_mod, ↓bnI_s, ↓bnV_s, ↓bnJ_s, ↓bnR_s, rt_e, rt_0, rt_bz, sv_s, sv_o, ur_s, ur_e, ur_o, bz_T, bz_F, nat_eqF, Nat.reduceAdd, ↓q_X_done, ↓gR_8_0 F, ↓gR_9_0 F, ↓gI_10_7 F, ↓gR_8_3 F, ↓gd_8 F, il_0, il_1, il_2, il_3, il_4, il_5, il_7, il_8, il_10, il_26, il_9999, e71, e1], e2, Or.inr rfl, fun U K hU h8 h23 x1 x2 x3 => ?_⟩
      obtain ⟨U', K', f1, f2, f3, f4⟩ := e4 U K hU h8 h23
      rw [bz_T h2] at f1
      rw [← h8] at x1 x2
      exact ⟨U', K', by simp (disch := first | decide | omega | (simp (disch := first | decide | omega) only [sv_s, sv_o, ur_s, ur_e, ur_o]; omega)) only [↓reduceIte, iv_add, iv_sub, iv_mul, iv_neg, iv_ltT, iv_ltF, iv_leT, iv_leF, iv_eqT, iv_eqF, iv_div, iv_mod, ↓bnI_s, ↓bnV_s, ↓bnJ_s, ↓bnR_s, rt_e, rt_0, rt_bz, sv_s, sv_o, ur_s, ur_e, ur_o, bz_T, bz_F, nat_eqF, Nat.reduceAdd, ↓q_M_isPlayed, ↓gR_435_2 F, ↓lI_436 F, ↓lI_437 F, ↓lI_438 F, ↓lI_439 F, ↓lI_440 F, ↓lI_441 F, ↓lI_443 F, ↓lI_444 F, ↓lI_445 F, ↓lI_446 F, ↓lI_447 F, ↓lI_448 F, ↓lI_449 F, ↓lI_450 F, ↓gd_435 F, il_0, il_1, il_2, il_3, il_4, il_5, il_6, il_7, il_11, il_27, x1, x2, f1], f2, f3⟩
    · refine ⟨0, A', V', J, by simp (disch := first | decide | omega | (simp (disch := first | decide | omega) only [sv_s, sv_o, ur_s, ur_e, ur_o]; omega)) only [↓reduceIte, iv_add, iv_sub, iv_mul, iv_neg, iv_ltT, iv_ltF, iv_leT, iv_leF, iv_eqT, iv_eqF, iv_div, iv_mod, ↓bnI_s, ↓bnV_s, ↓bnJ_s, ↓bnR_s, rt_e, rt_0, rt_bz, sv_s, sv_o, ur_s, ur_e, ur_o, bz_T, bz_F, nat_eqF, Nat.reduceAdd, ↓q_X_done, ↓gR_8_0 F, ↓gR_9_0 F, ↓gI_10_7 F, ↓gR_8_3 F, ↓gd_8 F, il_0, il_1, il_2, il_3, il_4, il_5, il_7, il_8, il_10, il_26, il_9999, e71, e1], e2, Or.inl rfl, fun U K hU h8 h23 x1 x2 x3 => ?_⟩
      obtain ⟨U', K', f1, f2, f3, f4⟩ := e4 U K hU h8 h23
      rw [bz_F h2] at f1
      rw [← h8] at x1 x2
      exact ⟨U', K', by simp (disch := first | decide | omega | (simp (disch := first | decide | omega) only [sv_s, sv_o, ur_s, ur_e, ur_o]; omega)) only [↓reduceIte, iv_add, iv_sub, iv_mul, iv_neg, iv_ltT, iv_ltF, iv_leT, iv_leF, iv_eqT, iv_eqF, iv_div, iv_mod, ↓bnI_s, ↓bnV_s, ↓bnJ_s, ↓bnR_s, rt_e, rt_0, rt_bz, sv_s, sv_o, ur_s, ur_e, ur_o, bz_T, bz_F, nat_eqF, Nat.reduceAdd, ↓q_M_isPlayed, ↓gR_435_2 F, ↓lI_436 F, ↓lI_437 F, ↓lI_438 F, ↓lI_439 F, ↓lI_440 F, ↓lI_441 F, ↓lI_443 F, ↓lI_444 F, ↓lI_445 F, ↓lI_446 F, ↓lI_447 F, ↓lI_448 F, ↓lI_449 F, ↓lI_450 F, ↓gd_435 F, il_0, il_1, il_2, il_3, il_4, il_5, il_6, il_7, il_11, il_27, x1, x2, f1], f2, f3⟩
end
