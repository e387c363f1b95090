/-! MIXED; HOW NEAR -/
def uF (G : Int → Int) (f : Int) : Int := if f = 0 then G 4 - G 0 else G 3 - G 1
def dF (G : Int → Int) (f : Int) : Int := if f = 0 then G 2 - G 6 else G 5 - G 7
section
variable {V J : Vm} {z : Zz}
theorem y_unlike {a b : Int} {h : Mem} (ha : -1000 ≤ a ∧ a ≤ 1000) (hb : -1000 ≤ b ∧ b ≤ 1000) : cA m_X_unlikeSigns [.int (iv a), .int (iv b)] h = some (.int (iv (bz ((a < 0 ∧ 0 < b) ∨ (0 < a ∧ b < 0)))), h) := by
  by_cases h1 : a < 0
  · by_cases h2 : 0 < b
    · simp (disch := first | decide | omega | (simp (disch := first | decide | omega) only [sv_s, sv_o, ur_s, ur_e, ur_o]; omega)) only [↓reduceIte, iv_add, iv_sub, iv_mul, iv_neg, iv_ltT, iv_ltF, iv_leT, iv_leF, iv_eqT, iv_eqF, iv_div, iv_mod, ↓bnI_s, ↓bnV_s, ↓bnJ_s, ↓bnR_s, rt_e, rt_0, rt_bz, sv_s, sv_o, ur_s, ur_e, ur_o, bz_T, bz_F, nat_eqF, Nat.reduceAdd, ↓q_X_unlikeSigns, il_0, il_1]
    · simp (disch := first | decide | omega | (simp (disch := first | decide | omega) only [sv_s, sv_o, ur_s, ur_e, ur_o]; omega)) only [↓reduceIte, iv_add, iv_sub, iv_mul, iv_neg, iv_ltT, iv_ltF, iv_leT, iv_leF, iv_eqT, iv_eqF, iv_div, iv_mod, ↓bnI_s, ↓bnV_s, ↓bnJ_s, ↓bnR_s, rt_e, rt_0, rt_bz, sv_s, sv_o, ur_s, ur_e, ur_o, bz_T, bz_F, nat_eqF, Nat.reduceAdd, ↓q_X_unlikeSigns, il_0, il_1]
  · by_cases h2 : 0 < a
    · by_cases h3 : b < 0
      · simp (disch := first | decide | omega | (simp (disch := first | decide | omega) only [sv_s, sv_o, ur_s, ur_e, ur_o]; omega)) only [↓reduceIte, iv_add, iv_sub, iv_mul, iv_neg, iv_ltT, iv_ltF, iv_leT, iv_leF, iv_eqT, iv_eqF, iv_div, iv_mod, ↓bnI_s, ↓bnV_s, ↓bnJ_s, ↓bnR_s, rt_e, rt_0, rt_bz, sv_s, sv_o, ur_s, ur_e, ur_o, bz_T, bz_F, nat_eqF, Nat.reduceAdd, ↓q_X_unlikeSigns, il_0, il_1]
      · simp (disch := first | decide | omega | (simp (disch := first | decide | omega) only [sv_s, sv_o, ur_s, ur_e, ur_o]; omega)) only [↓reduceIte, iv_add, iv_sub, iv_mul, iv_neg, iv_ltT, iv_ltF, iv_leT, iv_leF, iv_eqT, iv_eqF, iv_div, iv_mod, ↓bnI_s, ↓bnV_s, ↓bnJ_s, ↓bnR_s, rt_e, rt_0, rt_bz, sv_s, sv_o, ur_s, ur_e, ur_o, bz_T, bz_F, nat_eqF, Nat.reduceAdd, ↓q_X_unlikeSigns, il_0, il_1]
    · simp (disch := first | decide | omega | (simp (disch := first | decide | omega) only [sv_s, sv_o, ur_s, ur_e, ur_o]; omega)) only [↓reduceIte, iv_add, iv_sub, iv_mul, iv_neg, iv_ltT, iv_ltF, iv_leT, iv_leF, iv_eqT, iv_eqF, iv_div, iv_mod, ↓bnI_s, ↓bnV_s, ↓bnJ_s, ↓bnR_s, rt_e, rt_0, rt_bz, sv_s, sv_o, ur_s, ur_e, ur_o, bz_T, bz_F, nat_eqF, Nat.reduceAdd, ↓q_X_unlikeSigns, il_0, il_1]
theorem y_upOf (F : Fix z) {f : Int} (hf : f = 0 ∨ f = 1) : cA m_M_upOf [.ref 435, .int (iv f)] (em V J z) = some (.int (iv (uF (fun k => V 436 (125 + k)) f)), em V J z) := by
  have g : ∀ a b w : Int, 0 ≤ 4 * a + 2 * b + w ∧ 4 * a + 2 * b + w < 8 → cA m_M_gainOf [.ref 435, .int (iv a), .int (iv b), .int (iv w)] (em V J z) = some (.int (iv (V 436 (125 + 4 * a + 2 * b + w))), em V J z) := fun a b w h => y_M_gainOf F h
  have g1 := g 1 0 0 (by omega)
  have g2 := g 0 0 0 (by omega)
  have g3 := g 0 1 1 (by omega)
  have g4 := g 0 0 1 (by omega)
  unfold uF
  rcases hf with rfl | rfl
  · rw [if_pos rfl]
    simp (disch := first | decide | omega | (simp (disch := first | decide | omega) only [sv_s, sv_o, ur_s, ur_e, ur_o]; omega)) only [↓reduceIte, iv_add, iv_sub, iv_mul, iv_neg, iv_ltT, iv_ltF, iv_leT, iv_leF, iv_eqT, iv_eqF, iv_div, iv_mod, ↓bnI_s, ↓bnV_s, ↓bnJ_s, ↓bnR_s, rt_e, rt_0, rt_bz, sv_s, sv_o, ur_s, ur_e, ur_o, bz_T, bz_F, nat_eqF, Nat.reduceAdd, ↓q_M_upOf, ↓gd_435 F, il_0, il_1, il_27, g1, g2]
    rfl
  · rw [if_neg (by decide)]
    simp (disch := first | decide | omega | (simp (disch := first | decide | omega) only [sv_s, sv_o, ur_s, ur_e, ur_o]; omega)) only [↓reduceIte, iv_add, iv_sub, iv_mul, iv_neg, iv_ltT, iv_ltF, iv_leT, iv_leF, iv_eqT, iv_eqF, iv_div, iv_mod, ↓bnI_s, ↓bnV_s, ↓bnJ_s, ↓bnR_s, rt_e, rt_0, rt_bz, sv_s, sv_o, ur_s, ur_e, ur_o, bz_T, bz_F, nat_eqF, Nat.reduceAdd, ↓q_M_upOf, ↓gd_435 F, il_0, il_1, il_27, g3, g4]
    rfl
theorem y_lowOf (F : Fix z) {f : Int} (hf : f = 0 ∨ f = 1) : cA m_M_lowOf [.ref 435, .int (iv f)] (em V J z) = some (.int (iv (uF (fun k => V 436 (125 + k)) f + dF (fun k => V 436 (125 + k)) f)), em V J z) := by
  have g : ∀ a b w : Int, 0 ≤ 4 * a + 2 * b + w ∧ 4 * a + 2 * b + w < 8 → cA m_M_gainOf [.ref 435, .int (iv a), .int (iv b), .int (iv w)] (em V J z) = some (.int (iv (V 436 (125 + 4 * a + 2 * b + w))), em V J z) := fun a b w h => y_M_gainOf F h
  have g1 := g 0 1 0 (by omega)
  have g2 := g 1 1 0 (by omega)
  have g3 := g 1 0 1 (by omega)
  have g4 := g 1 1 1 (by omega)
  have u := y_upOf (V := V) (J := J) F hf
  unfold dF
  rcases hf with rfl | rfl
  · rw [if_pos rfl]
    simp (disch := first | decide | omega | (simp (disch := first | decide | omega) only [sv_s, sv_o, ur_s, ur_e, ur_o]; omega)) only [↓reduceIte, iv_add, iv_sub, iv_mul, iv_neg, iv_ltT, iv_ltF, iv_leT, iv_leF, iv_eqT, iv_eqF, iv_div, iv_mod, ↓bnI_s, ↓bnV_s, ↓bnJ_s, ↓bnR_s, rt_e, rt_0, rt_bz, sv_s, sv_o, ur_s, ur_e, ur_o, bz_T, bz_F, nat_eqF, Nat.reduceAdd, ↓q_M_lowOf, ↓gd_435 F, il_0, il_1, il_27, u, g1, g2]
    rfl
  · rw [if_neg (by decide)]
    simp (disch := first | decide | omega | (simp (disch := first | decide | omega) only [sv_s, sv_o, ur_s, ur_e, ur_o]; omega)) only [↓reduceIte, iv_add, iv_sub, iv_mul, iv_neg, iv_ltT, iv_ltF, iv_leT, iv_leF, iv_eqT, iv_eqF, iv_div, iv_mod, ↓bnI_s, ↓bnV_s, ↓bnJ_s, ↓bnR_s, rt_e, rt_0, rt_bz, sv_s, sv_o, ur_s, ur_e, ur_o, bz_T, bz_F, nat_eqF, Nat.reduceAdd, ↓q_M_lowOf, ↓gd_435 F, il_0, il_1, il_27, u, g3, g4]
    rfl
theorem y_between (F : Fix z) {f u d : Int} (hf : f = 0 ∨ f = 1) (hu : uF (fun k => V 436 (125 + k)) f = u) (hd : dF (fun k => V 436 (125 + k)) f = d) (ru : -1000 ≤ u ∧ u ≤ 1000) (rd : -1000 ≤ d ∧ d ≤ 1000) : cA m_M_isBetween [.ref 435, .int (iv f)] (em V J z) = some (.int (iv (bz ((u < 0 ∧ d < 0) ∨ (0 < u ∧ 0 < d)))), em V J z) := by
  have e1 := y_upOf (V := V) (J := J) F hf
  have e2 := y_lowOf (V := V) (J := J) F hf
  rw [hu] at e1
  rw [hu, hd] at e2
  by_cases h0 : 0 < u + d
  · rw [bz_eq (q := 1 ≤ u ∧ u ≤ u + d - 1) (by omega)]
    simp (disch := first | decide | omega | (simp (disch := first | decide | omega) only [sv_s, sv_o, ur_s, ur_e, ur_o]; omega)) only [↓reduceIte, iv_add, iv_sub, iv_mul, iv_neg, iv_ltT, iv_ltF, iv_leT, iv_leF, iv_eqT, iv_eqF, iv_div, iv_mod, ↓bnI_s, ↓bnV_s, ↓bnJ_s, ↓bnR_s, rt_e, rt_0, rt_bz, sv_s, sv_o, ur_s, ur_e, ur_o, bz_T, bz_F, nat_eqF, Nat.reduceAdd, ↓q_M_isBetween, ↓gd_435 F, il_0, il_1, il_27, e1, e2, y_isIn]
  · rw [bz_eq (q := u + d + 1 ≤ u ∧ u ≤ -1) (by omega)]
    simp (disch := first | decide | omega | (simp (disch := first | decide | omega) only [sv_s, sv_o, ur_s, ur_e, ur_o]; omega)) only [↓reduceIte, iv_add, iv_sub, iv_mul, iv_neg, iv_ltT, iv_ltF, iv_leT, iv_leF, iv_eqT, iv_eqF, iv_div, iv_mod, ↓bnI_s, ↓bnV_s, ↓bnJ_s, ↓bnR_s, rt_e, rt_0, rt_bz, sv_s, sv_o, ur_s, ur_e, ur_o, bz_T, bz_F, nat_eqF, Nat.reduceAdd, ↓q_M_isBetween, ↓gd_435 F, il_0, il_1, il_27, e1, e2, y_isIn]
set_option maxHeartbeats 4000000 in
theorem p_mixed (F : Fix z) (hg : Gai V 9 (V 436)) {f l : Int} (hf : f = 0 ∨ f = 1) (hl : l = 0 ∨ l = 1) : Pq V J z (fun h => cA m_X_mixed [.ref 8, .int (iv f), .int (iv l)] h) (fun h => cA m_M_mixed [.ref 435, .int (iv f), .int (iv l)] h) := by
  have hG : ∀ k, 0 ≤ k → k < 8 → V 20 k = V 436 (125 + k) ∧ -99 ≤ V 436 (125 + k) ∧ V 436 (125 + k) ≤ 99 := hg
  have g : ∀ a b w : Int, 0 ≤ 4 * a + 2 * b + w ∧ 4 * a + 2 * b + w < 8 → cA m_X_gainOf [.ref 8, .int (iv a), .int (iv b), .int (iv w)] (em V J z) = some (.int (iv (V 436 (125 + (4 * a + 2 * b + w)))), em V J z) := fun a b w h => by
    rw [y_X_gainOf F h, (hG _ h.1 h.2).1]
  have x0 := g 0 0 0 (by omega)
  have x1 := g 0 0 1 (by omega)
  have x2 := g 0 1 0 (by omega)
  have x3 := g 0 1 1 (by omega)
  have x4 := g 1 0 0 (by omega)
  have x5 := g 1 0 1 (by omega)
  have x6 := g 1 1 0 (by omega)
  have x7 := g 1 1 1 (by omega)
  have r0 := (hG 0 (by omega) (by omega)).2
  have r1 := (hG 1 (by omega) (by omega)).2
  have r2 := (hG 2 (by omega) (by omega)).2
  have r3 := (hG 3 (by omega) (by omega)).2
  have r4 := (hG 4 (by omega) (by omega)).2
  have r5 := (hG 5 (by omega) (by omega)).2
  have r6 := (hG 6 (by omega) (by omega)).2
  have r7 := (hG 7 (by omega) (by omega)).2
  obtain ⟨u0, hu0⟩ : ∃ u, uF (fun k => V 436 (125 + k)) 0 = u := ⟨_, rfl⟩
  obtain ⟨u1, hu1⟩ : ∃ u, uF (fun k => V 436 (125 + k)) 1 = u := ⟨_, rfl⟩
  obtain ⟨d0, hd0⟩ : ∃ u, dF (fun k => V 436 (125 + k)) 0 = u := ⟨_, rfl⟩
  obtain ⟨d1, hd1⟩ : ∃ u, dF (fun k => V 436 (125 + k)) 1 = u := ⟨_, rfl⟩
  have e0 : V 436 (125 + 4) - V 436 (125 + 0) = u0 := by rw [← hu0]; rfl
  have e1 : V 436 (125 + 3) - V 436 (125 + 1) = u1 := by rw [← hu1]; rfl
  have e2 : V 436 (125 + 2) - V 436 (125 + 6) = d0 := by rw [← hd0]; rfl
  have e3 : V 436 (125 + 5) - V 436 (125 + 7) = d1 := by rw [← hd1]; rfl
  have b0 := y_between (V := V) (J := J) F (f := 0) (Or.inl rfl) hu0 hd0 (by omega) (by omega)
  have b1 := y_between (V := V) (J := J) F (f := 1) (Or.inr rfl) hu1 hd1 (by omega) (by omega)
  have x0 : cA m_X_gainOf [.ref 8, .int (iv 0), .int (iv 0), .int (iv 0)] (em V J z) = some (.int (iv (V 436 (125 + 0))), em V J z) := x0
  have x1 : cA m_X_gainOf [.ref 8, .int (iv 0), .int (iv 0), .int (iv 1)] (em V J z) = some (.int (iv (V 436 (125 + 1))), em V J z) := x1
  have x2 : cA m_X_gainOf [.ref 8, .int (iv 0), .int (iv 1), .int (iv 0)] (em V J z) = some (.int (iv (V 436 (125 + 2))), em V J z) := x2
  have x3 : cA m_X_gainOf [.ref 8, .int (iv 0), .int (iv 1), .int (iv 1)] (em V J z) = some (.int (iv (V 436 (125 + 3))), em V J z) := x3
  have x4 : cA m_X_gainOf [.ref 8, .int (iv 1), .int (iv 0), .int (iv 0)] (em V J z) = some (.int (iv (V 436 (125 + 4))), em V J z) := x4
  have x5 : cA m_X_gainOf [.ref 8, .int (iv 1), .int (iv 0), .int (iv 1)] (em V J z) = some (.int (iv (V 436 (125 + 5))), em V J z) := x5
  have x6 : cA m_X_gainOf [.ref 8, .int (iv 1), .int (iv 1), .int (iv 0)] (em V J z) = some (.int (iv (V 436 (125 + 6))), em V J z) := x6
  have x7 : cA m_X_gainOf [.ref 8, .int (iv 1), .int (iv 1), .int (iv 1)] (em V J z) = some (.int (iv (V 436 (125 + 7))), em V J z) := x7
  generalize V 436 (125 + 0) = g0 at *
  generalize V 436 (125 + 1) = g1 at *
  generalize V 436 (125 + 2) = g2 at *
  generalize V 436 (125 + 3) = g3 at *
  generalize V 436 (125 + 4) = g4 at *
  generalize V 436 (125 + 5) = g5 at *
  generalize V 436 (125 + 6) = g6 at *
  generalize V 436 (125 + 7) = g7 at *
  clear g hG hg
  have un1 : cA m_X_unlikeSigns [.int (iv (g1 - g3)), .int (iv (g5 - g7))] (em V J z) = some (.int (iv (bz ((u1 < 0 ∧ d1 < 0) ∨ (0 < u1 ∧ 0 < d1)))), em V J z) := by
    rw [y_unlike (by omega) (by omega)]
    exact si (bz_eq (by omega))
  have un0 : cA m_X_unlikeSigns [.int (iv (g0 - g4)), .int (iv (g2 - g6))] (em V J z) = some (.int (iv (bz ((u0 < 0 ∧ d0 < 0) ∨ (0 < u0 ∧ 0 < d0)))), em V J z) := by
    rw [y_unlike (by omega) (by omega)]
    exact si (bz_eq (by omega))
  by_cases q1 : (u1 < 0 ∧ d1 < 0) ∨ (0 < u1 ∧ 0 < d1)
  · by_cases q0 : (u0 < 0 ∧ d0 < 0) ∨ (0 < u0 ∧ 0 < d0)
    · -- the numbers asked of this one
      rw [bz_T q1] at un1
      rw [bz_T q0] at un0
      have key : ∃ a b : Nat, ∃ s : Int, (s = 1 ∨ s = -1) ∧ 0 < a ∧ 0 < b ∧ a ≤ 1000 ∧ b ≤ 1000 ∧ uF (fun k => V 436 (125 + k)) f = s * a ∧ dF (fun k => V 436 (125 + k)) f = s * b ∧ (if f = 0 then g0 - g4 else g1 - g3) = -(s * a) ∧ (if f = 0 then g2 - g6 else g5 - g7) = s * b := by
        rcases hf with rfl | rfl
        · rw [hu0, hd0, if_pos rfl, if_pos rfl]
          rcases q0 with q | q
          · exact ⟨(-u0).toNat, (-d0).toNat, -1, Or.inr rfl, by omega, by omega, by omega, by omega, by omega, by omega, by omega, by omega⟩
          · exact ⟨u0.toNat, d0.toNat, 1, Or.inl rfl, by omega, by omega, by omega, by omega, by omega, by omega, by omega, by omega⟩
        · rw [hu1, hd1, if_neg (by decide), if_neg (by decide)]
          rcases q1 with q | q
          · exact ⟨(-u1).toNat, (-d1).toNat, -1, Or.inr rfl, by omega, by omega, by omega, by omega, by omega, by omega, by omega, by omega⟩
          · exact ⟨u1.toNat, d1.toNat, 1, Or.inl rfl, by omega, by omega, by omega, by omega, by omega, by omega, by omega, by omega⟩
      obtain ⟨a, b, s, hs, a0, b0', a1, b1', ku, kd, k1, k2⟩ := key
      have eu := y_upOf (V := V) (J := J) F hf
      have el := y_lowOf (V := V) (J := J) F hf
      rw [ku] at eu
      rw [ku, kd] at el
      have gp : 0 < Nat.gcd a (a + b) := Nat.gcd_pos_of_pos_left _ a0
      have gl : Nat.gcd a (a + b) ≤ a := Nat.gcd_le_left _ a0
      have ev : (if (if f = 0 then g0 - g4 else g1 - g3) < 0 then -(if f = 0 then g0 - g4 else g1 - g3) else (if f = 0 then g0 - g4 else g1 - g3)) = (a : Int) := by
        rw [k1]; rcases hs with rfl | rfl
        · rw [if_pos (by omega)]; omega
        · rw [if_neg (by omega)]; omega
      have ew : (if (if f = 0 then g2 - g6 else g5 - g7) < 0 then -(if f = 0 then g2 - g6 else g5 - g7) else (if f = 0 then g2 - g6 else g5 - g7)) = (b : Int) := by
        rw [k2]; rcases hs with rfl | rfl
        · rw [if_neg (by omega)]; omega
        · rw [if_pos (by omega)]; omega
      have lo1 := y_lowest (h := em V J z) (x := (a : Int)) (a := a) (b := a + b) (by omega) (by omega) (by omega) gp
      have lo2 := y_lowest (h := em V J z) (x := ((a + b : Nat) : Int)) (a := a) (b := a + b) (by omega) (by omega) (by omega) gp
      have dv : cA m_M_divisor [.int (iv (s * a)), .int (iv (s * a + s * b))] (em V J z) = some (.int (iv (Nat.gcd a (a + b) : Nat)), em V J z) := by
        rw [q_M_divisor]
        rcases hs with rfl | rfl
        · rw [show (1 : Int) * a = (a : Int) by omega, show (a : Int) + 1 * b = ((a + b : Nat) : Int) by omega]
          exact y_div_p (a + b) a (a + b) (Nat.le_refl _) (by omega) (by omega)
        · rw [show (-1 : Int) * a = -(a : Int) by omega, show -(a : Int) + -1 * b = -((a + b : Nat) : Int) by omega]
          exact y_div_n (a + b) a (a + b) (Nat.le_refl _) (by omega) (by omega)
      generalize hgg : Nat.gcd a (a + b) = G at *
      have s1 : ∀ t : Int, s * (s * t) = t := fun t => by rcases hs with rfl | rfl <;> omega
      refine ⟨(if l = 0 then (a : Int) else ((a + b : Nat) : Int)) / (G : Int), V, J, V, J, ?_, rfl, ?_, rfl⟩
      · show cA _ _ _ = _
        have mid : ∀ w u : Int, w = a → u = (if f = 0 then g2 - g6 else g5 - g7) → rX m_X_mixed m_X_mixed 116 [dd, dd, .int (iv l), dd, dd, dd, dd, .int (iv w), dd] [.int (iv u), .int (iv w)] (em V J z) = some (.int (iv ((if l = 0 then (a : Int) else ((a + b : Nat) : Int)) / (G : Int))), em V J z) := by
          intro w u hw hu
          subst hw
          have ab : cA m_Math_abs [.int (iv u)] (em V J z) = some (.int (iv (b : Int)), em V J z) := by
            rw [y_abs (by rw [hu, k2]; rcases hs with rfl | rfl <;> omega), hu, ew]
          rcases hl with rfl | rfl
          · rw [if_pos rfl]
            (rw [q_X_mixed_116]; simp (disch := first | decide | omega | (simp (disch := first | decide | omega) only [sv_s, sv_o, ur_s, ur_e, ur_o]; omega)) only [↓reduceIte, iv_add, iv_sub, iv_mul, iv_neg, iv_ltT, iv_ltF, iv_leT, iv_leF, iv_eqT, iv_eqF, iv_div, iv_mod, ↓bnI_s, ↓bnV_s, ↓bnJ_s, ↓bnR_s, rt_e, rt_0, rt_bz, sv_s, sv_o, ur_s, ur_e, ur_o, bz_T, bz_F, nat_eqF, Nat.reduceAdd, il_0, il_1, il_116, ab, iv_long, ← Int.natCast_add, lo1, jv_int])
          · rw [if_neg (by decide)]
            (rw [q_X_mixed_116]; simp (disch := first | decide | omega | (simp (disch := first | decide | omega) only [sv_s, sv_o, ur_s, ur_e, ur_o]; omega)) only [↓reduceIte, iv_add, iv_sub, iv_mul, iv_neg, iv_ltT, iv_ltF, iv_leT, iv_leF, iv_eqT, iv_eqF, iv_div, iv_mod, ↓bnI_s, ↓bnV_s, ↓bnJ_s, ↓bnR_s, rt_e, rt_0, rt_bz, sv_s, sv_o, ur_s, ur_e, ur_o, bz_T, bz_F, nat_eqF, Nat.reduceAdd, il_0, il_1, il_116, ab, iv_long, ← Int.natCast_add, lo2, jv_int])
        rcases hf with rfl | rfl
        · rw [if_pos (show (0 : Int) = 0 from rfl)] at ev k1
          rw [if_pos (show (0 : Int) = 0 from rfl)] at mid
          have ab : cA m_Math_abs [.int (iv (g0 - g4))] (em V J z) = some (.int (iv (a : Int)), em V J z) := by
            rw [y_abs (by omega), ev]
          simp (disch := first | decide | omega | (simp (disch := first | decide | omega) only [sv_s, sv_o, ur_s, ur_e, ur_o]; omega)) only [↓reduceIte, iv_add, iv_sub, iv_mul, iv_neg, iv_ltT, iv_ltF, iv_leT, iv_leF, iv_eqT, iv_eqF, iv_div, iv_mod, ↓bnI_s, ↓bnV_s, ↓bnJ_s, ↓bnR_s, rt_e, rt_0, rt_bz, sv_s, sv_o, ur_s, ur_e, ur_o, bz_T, bz_F, nat_eqF, Nat.reduceAdd, ↓q_X_mixed, ↓gd_8 F, il_0, il_1, il_26, il_116, x0, x1, x2, x3, x4, x5, x6, x7, un1, un0, ab, mid]
        · rw [if_neg (show ¬ (1 : Int) = 0 by decide)] at ev k1
          rw [if_neg (show ¬ (1 : Int) = 0 by decide)] at mid
          have ab : cA m_Math_abs [.int (iv (g1 - g3))] (em V J z) = some (.int (iv (a : Int)), em V J z) := by
            rw [y_abs (by omega), ev]
          simp (disch := first | decide | omega | (simp (disch := first | decide | omega) only [sv_s, sv_o, ur_s, ur_e, ur_o]; omega)) only [↓reduceIte, iv_add, iv_sub, iv_mul, iv_neg, iv_ltT, iv_ltF, iv_leT, iv_leF, iv_eqT, iv_eqF, iv_div, iv_mod, ↓bnI_s, ↓bnV_s, ↓bnJ_s, ↓bnR_s, rt_e, rt_0, rt_bz, sv_s, sv_o, ur_s, ur_e, ur_o, bz_T, bz_F, nat_eqF, Nat.reduceAdd, ↓q_X_mixed, ↓gd_8 F, il_0, il_1, il_26, il_116, x0, x1, x2, x3, x4, x5, x6, x7, un1, un0, ab, mid]
      · show cA _ _ _ = _
        rw [bz_T q0] at b0
        rw [bz_T q1] at b1
        have mid : ∀ v w : Int, (v = s * w ∧ 0 < w ∧ w ≤ 2000) → rX m_M_mixed m_M_mixed 35 [.ref 435, .int (iv f), dd, dd] [.int (iv v)] (em V J z) = some (.int (iv (w / (G : Int))), em V J z) := by
          rintro v w ⟨rfl, w0, w1⟩
          rcases hs with rfl | rfl
          · rw [show (1 : Int) * w = w by omega]
            (rw [q_M_mixed_35]; simp (disch := first | decide | omega | (simp (disch := first | decide | omega) only [sv_s, sv_o, ur_s, ur_e, ur_o]; omega)) only [↓reduceIte, iv_add, iv_sub, iv_mul, iv_neg, iv_ltT, iv_ltF, iv_leT, iv_leF, iv_eqT, iv_eqF, iv_div, iv_mod, ↓bnI_s, ↓bnV_s, ↓bnJ_s, ↓bnR_s, rt_e, rt_0, rt_bz, sv_s, sv_o, ur_s, ur_e, ur_o, bz_T, bz_F, nat_eqF, Nat.reduceAdd, il_0, il_1, il_35, eu, el, dv])
          · rw [show (-1 : Int) * w = -w by omega]
            (rw [q_M_mixed_35]; simp (disch := first | decide | omega | (simp (disch := first | decide | omega) only [sv_s, sv_o, ur_s, ur_e, ur_o]; omega)) only [↓reduceIte, iv_add, iv_sub, iv_mul, iv_neg, iv_ltT, iv_ltF, iv_leT, iv_leF, iv_eqT, iv_eqF, iv_div, iv_mod, ↓bnI_s, ↓bnV_s, ↓bnJ_s, ↓bnR_s, rt_e, rt_0, rt_bz, sv_s, sv_o, ur_s, ur_e, ur_o, bz_T, bz_F, nat_eqF, Nat.reduceAdd, il_0, il_1, il_35, eu, el, dv])
            rw [show -(-w) = w by omega]
        rcases hl with rfl | rfl
        · rw [if_pos rfl]
          rw [← mid (s * a) a ⟨rfl, by omega, by omega⟩]
          simp (disch := first | decide | omega | (simp (disch := first | decide | omega) only [sv_s, sv_o, ur_s, ur_e, ur_o]; omega)) only [↓reduceIte, iv_add, iv_sub, iv_mul, iv_neg, iv_ltT, iv_ltF, iv_leT, iv_leF, iv_eqT, iv_eqF, iv_div, iv_mod, ↓bnI_s, ↓bnV_s, ↓bnJ_s, ↓bnR_s, rt_e, rt_0, rt_bz, sv_s, sv_o, ur_s, ur_e, ur_o, bz_T, bz_F, nat_eqF, Nat.reduceAdd, ↓q_M_mixed, ↓gd_435 F, il_0, il_1, il_27, il_35, b0, b1, eu]
        · rw [if_neg (by decide)]
          rw [← mid (s * a + s * b) ((a + b : Nat) : Int) ⟨by rcases hs with rfl | rfl <;> omega, by omega, by omega⟩]
          simp (disch := first | decide | omega | (simp (disch := first | decide | omega) only [sv_s, sv_o, ur_s, ur_e, ur_o]; omega)) only [↓reduceIte, iv_add, iv_sub, iv_mul, iv_neg, iv_ltT, iv_ltF, iv_leT, iv_leF, iv_eqT, iv_eqF, iv_div, iv_mod, ↓bnI_s, ↓bnV_s, ↓bnJ_s, ↓bnR_s, rt_e, rt_0, rt_bz, sv_s, sv_o, ur_s, ur_e, ur_o, bz_T, bz_F, nat_eqF, Nat.reduceAdd, ↓q_M_mixed, ↓gd_435 F, il_0, il_1, il_27, il_35, b0, b1, el]
    · rw [bz_F q0] at b0 un0
      rw [bz_T q1] at b1 un1
      clear q0 q1
      exact ⟨-1, V, J, V, J, (by simp (disch := first | decide | omega | (simp (disch := first | decide | omega) only [sv_s, sv_o, ur_s, ur_e, ur_o]; omega)) only [↓reduceIte, iv_add, iv_sub, iv_mul, iv_neg, iv_ltT, iv_ltF, iv_leT, iv_leF, iv_eqT, iv_eqF, iv_div, iv_mod, ↓bnI_s, ↓bnV_s, ↓bnJ_s, ↓bnR_s, rt_e, rt_0, rt_bz, sv_s, sv_o, ur_s, ur_e, ur_o, bz_T, bz_F, nat_eqF, Nat.reduceAdd, ↓q_X_mixed, ↓gd_8 F, il_0, il_1, il_26, il_116, x0, x1, x2, x3, x4, x5, x6, x7, un1, un0]), rfl, (by simp (disch := first | decide | omega | (simp (disch := first | decide | omega) only [sv_s, sv_o, ur_s, ur_e, ur_o]; omega)) only [↓reduceIte, iv_add, iv_sub, iv_mul, iv_neg, iv_ltT, iv_ltF, iv_leT, iv_leF, iv_eqT, iv_eqF, iv_div, iv_mod, ↓bnI_s, ↓bnV_s, ↓bnJ_s, ↓bnR_s, rt_e, rt_0, rt_bz, sv_s, sv_o, ur_s, ur_e, ur_o, bz_T, bz_F, nat_eqF, Nat.reduceAdd, ↓q_M_mixed, ↓gd_435 F, il_0, il_1, il_27, il_35, b0, b1]), rfl⟩
  · rw [bz_F q1] at b1 un1
    clear q1
    exact ⟨-1, V, J, V, J, (by simp (disch := first | decide | omega | (simp (disch := first | decide | omega) only [sv_s, sv_o, ur_s, ur_e, ur_o]; omega)) only [↓reduceIte, iv_add, iv_sub, iv_mul, iv_neg, iv_ltT, iv_ltF, iv_leT, iv_leF, iv_eqT, iv_eqF, iv_div, iv_mod, ↓bnI_s, ↓bnV_s, ↓bnJ_s, ↓bnR_s, rt_e, rt_0, rt_bz, sv_s, sv_o, ur_s, ur_e, ur_o, bz_T, bz_F, nat_eqF, Nat.reduceAdd, ↓q_X_mixed, ↓gd_8 F, il_0, il_1, il_26, il_116, x0, x1, x2, x3, x4, x5, x6, x7, un1]), rfl, (by simp (disch := first | decide | omega | (simp (disch := first | decide | omega) only [sv_s, sv_o, ur_s, ur_e, ur_o]; omega)) only [↓reduceIte, iv_add, iv_sub, iv_mul, iv_neg, iv_ltT, iv_ltF, iv_leT, iv_leF, iv_eqT, iv_eqF, iv_div, iv_mod, ↓bnI_s, ↓bnV_s, ↓bnJ_s, ↓bnR_s, rt_e, rt_0, rt_bz, sv_s, sv_o, ur_s, ur_e, ur_o, bz_T, bz_F, nat_eqF, Nat.reduceAdd, ↓q_M_mixed, ↓gd_435 F, il_0, il_1, il_27, il_35, b1]), rfl⟩
/-! HOW NEAR -/
/-- one of the powers, multiplied so many times -/
def pwr (o : Nat) (i : Nat) : Nat → Nat
  | 0 => 1
  | k + 1 => pwr o i k * (if k < i then 10 - o else o)
theorem pwr_rg {o : Nat} (ho : 1 ≤ o ∧ o ≤ 9) (i : Nat) : ∀ k, 0 < pwr o i k ∧ pwr o i k ≤ 9 ^ k := by
  intro k
  induction k with
  | zero => exact ⟨Nat.one_pos, Nat.le_refl _⟩
  | succ k ih =>
    show 0 < pwr o i k * (if k < i then 10 - o else o) ∧ pwr o i k * (if k < i then 10 - o else o) ≤ 9 ^ (k + 1)
    have c : 1 ≤ (if k < i then 10 - o else o) ∧ (if k < i then 10 - o else o) ≤ 9 := by split <;> omega
    refine ⟨Nat.mul_pos ih.1 c.1, ?_⟩
    rw [Nat.pow_succ]
    exact Nat.mul_le_mul ih.2 c.2
def ways (o L : Nat) : Nat → Nat
  | 0 => 0
  | m + 1 => ways o L m + pwr o m (L - 1)
theorem pwr_12 {o : Nat} (ho : 1 ≤ o ∧ o ≤ 9) (i : Nat) {k : Nat} (hk : k ≤ 11) : 0 < pwr o i k ∧ pwr o i k ≤ 31381059609 := by
  have a := pwr_rg ho i k
  have b : 9 ^ k ≤ 9 ^ 11 := Nat.pow_le_pow_right (by omega) hk
  exact ⟨a.1, Nat.le_trans a.2 (Nat.le_trans b (by decide))⟩
theorem ways_rg {o L : Nat} (ho : 1 ≤ o ∧ o ≤ 9) (hL : L ≤ 12) : ∀ m, ways o L m ≤ 31381059609 * m := by
  intro m
  induction m with
  | zero => exact Nat.le_refl _
  | succ m ih =>
    have := (pwr_12 ho m (k := L - 1) (by omega)).2
    show ways o L m + pwr o m (L - 1) ≤ _
    omega
theorem jmul (a b : Nat) : jv (a : Int) * jv (b : Int) = jv ((a * b : Nat) : Int) := by rw [jv_mul, Int.natCast_mul]
theorem jadd (a b : Nat) : jv (a : Int) + jv (b : Int) = jv ((a + b : Nat) : Int) := by rw [jv_add, Int.natCast_add]
theorem jl (a : Nat) (h : a < 2147483648) : (iv (a : Int)).toInt64 = jv (a : Int) := iv_long (by omega)
theorem y_near_i {h : Mem} {o f L l i : Nat} (ho : 1 ≤ o ∧ o ≤ 9) (hL : 1 ≤ L ∧ L ≤ 12) (hi : i < L) (hf : f ≤ L) {x y : Int64} : ∀ (m k : Nat), k + m = L - 1 → rX m_X_near m_X_near 54 [dd, .int (iv o), .int (iv f), .int (iv L), .int (iv l), .long x, dd, .long y, dd, .int (iv i), .long (jv (pwr o i k : Nat)), dd, .int (iv k)] [] h = rX m_X_near m_X_near 42 [dd, .int (iv o), .int (iv f), .int (iv L), .int (iv l), .long (x + jv ((if i < f then pwr o i (L - 1) else 0 : Nat) : Int)), dd, .long (y + jv (pwr o i (L - 1) : Nat)), dd, .int (iv ((i + 1 : Nat) : Int)), dd, dd, dd] [] h := by
  intro m
  induction m with
  | zero =>
    intro k hk
    rw [show L - 1 = k by omega]
    by_cases q : i < f
    · rw [if_pos q]
      (rw [q_X_near_54]; simp (disch := first | decide | omega | (simp (disch := first | decide | omega) only [sv_s, sv_o, ur_s, ur_e, ur_o]; omega)) only [↓reduceIte, iv_add, iv_sub, iv_mul, iv_neg, iv_ltT, iv_ltF, iv_leT, iv_leF, iv_eqT, iv_eqF, iv_div, iv_mod, ↓bnI_s, ↓bnV_s, ↓bnJ_s, ↓bnR_s, rt_e, rt_0, rt_bz, sv_s, sv_o, ur_s, ur_e, ur_o, bz_T, bz_F, nat_eqF, Nat.reduceAdd, il_0, il_1, il_10, il_42, il_54, Int.natCast_add, Int.natCast_one])
    · rw [if_neg q]
      (rw [q_X_near_54]; simp (disch := first | decide | omega | (simp (disch := first | decide | omega) only [sv_s, sv_o, ur_s, ur_e, ur_o]; omega)) only [↓reduceIte, iv_add, iv_sub, iv_mul, iv_neg, iv_ltT, iv_ltF, iv_leT, iv_leF, iv_eqT, iv_eqF, iv_div, iv_mod, ↓bnI_s, ↓bnV_s, ↓bnJ_s, ↓bnR_s, rt_e, rt_0, rt_bz, sv_s, sv_o, ur_s, ur_e, ur_o, bz_T, bz_F, nat_eqF, Nat.reduceAdd, il_0, il_1, il_10, il_42, il_54, Int.natCast_add, Int.natCast_one])
      rfl
  | succ m ih =>
    intro k hk
    rw [← ih (k + 1) (by omega)]
    show _ = rX m_X_near m_X_near 54 [dd, .int (iv o), .int (iv f), .int (iv L), .int (iv l), .long x, dd, .long y, dd, .int (iv i), .long (jv ((pwr o i k * (if k < i then 10 - o else o) : Nat) : Int)), dd, .int (iv ((k + 1 : Nat) : Int))] [] h
    by_cases q : k < i
    · rw [if_pos q]
      have e : (10 : Int) - (o : Int) = ((10 - o : Nat) : Int) := by omega
      (rw [q_X_near_54]; simp (disch := first | decide | omega | (simp (disch := first | decide | omega) only [sv_s, sv_o, ur_s, ur_e, ur_o]; omega)) only [↓reduceIte, iv_add, iv_sub, iv_mul, iv_neg, iv_ltT, iv_ltF, iv_leT, iv_leF, iv_eqT, iv_eqF, iv_div, iv_mod, ↓bnI_s, ↓bnV_s, ↓bnJ_s, ↓bnR_s, rt_e, rt_0, rt_bz, sv_s, sv_o, ur_s, ur_e, ur_o, bz_T, bz_F, nat_eqF, Nat.reduceAdd, il_0, il_1, il_10, il_42, il_54, il_10, e, jl, jmul, Int.natCast_add, Int.natCast_one])
    · rw [if_neg q]
      (rw [q_X_near_54]; simp (disch := first | decide | omega | (simp (disch := first | decide | omega) only [sv_s, sv_o, ur_s, ur_e, ur_o]; omega)) only [↓reduceIte, iv_add, iv_sub, iv_mul, iv_neg, iv_ltT, iv_ltF, iv_leT, iv_leF, iv_eqT, iv_eqF, iv_div, iv_mod, ↓bnI_s, ↓bnV_s, ↓bnJ_s, ↓bnR_s, rt_e, rt_0, rt_bz, sv_s, sv_o, ur_s, ur_e, ur_o, bz_T, bz_F, nat_eqF, Nat.reduceAdd, il_0, il_1, il_10, il_42, il_54, il_10, jl, jmul, Int.natCast_add, Int.natCast_one])
theorem y_near_o {h : Mem} {o f L l : Nat} (ho : 1 ≤ o ∧ o ≤ 9) (hL : 1 ≤ L ∧ L ≤ 12) (hf : f ≤ L) : ∀ (m i : Nat), i + m = L → rX m_X_near m_X_near 42 [dd, .int (iv o), .int (iv f), .int (iv L), .int (iv l), .long (jv (ways o L (min i f) : Nat)), dd, .long (jv (ways o L i : Nat)), dd, .int (iv i), dd, dd, dd] [] h = rX m_X_near m_X_near 42 [dd, .int (iv o), .int (iv f), .int (iv L), .int (iv l), .long (jv (ways o L f : Nat)), dd, .long (jv (ways o L L : Nat)), dd, .int (iv L), dd, dd, dd] [] h := by
  intro m
  induction m with
  | zero =>
    intro i hi
    rw [show i = L by omega, Nat.min_eq_right hf]
  | succ m ih =>
    intro i hi
    rw [← ih (i + 1) (by omega)]
    have e := y_near_i (h := h) (l := l) (x := jv (ways o L (min i f) : Nat)) (y := jv (ways o L i : Nat)) ho hL (show i < L by omega) hf (L - 1) 0 (by omega)
    have st : rX m_X_near m_X_near 42 [dd, .int (iv o), .int (iv f), .int (iv L), .int (iv l), .long (jv (ways o L (min i f) : Nat)), dd, .long (jv (ways o L i : Nat)), dd, .int (iv i), dd, dd, dd] [] h = rX m_X_near m_X_near 54 [dd, .int (iv o), .int (iv f), .int (iv L), .int (iv l), .long (jv (ways o L (min i f) : Nat)), dd, .long (jv (ways o L i : Nat)), dd, .int (iv i), .long (jv (pwr o i 0 : Nat)), dd, .int (iv ((0 : Nat) : Int))] [] h := by
      (rw [q_X_near_42]; simp (disch := first | decide | omega | (simp (disch := first | decide | omega) only [sv_s, sv_o, ur_s, ur_e, ur_o]; omega)) only [↓reduceIte, iv_add, iv_sub, iv_mul, iv_neg, iv_ltT, iv_ltF, iv_leT, iv_leF, iv_eqT, iv_eqF, iv_div, iv_mod, ↓bnI_s, ↓bnV_s, ↓bnJ_s, ↓bnR_s, rt_e, rt_0, rt_bz, sv_s, sv_o, ur_s, ur_e, ur_o, bz_T, bz_F, nat_eqF, Nat.reduceAdd, il_0, il_1, il_42, il_54])
      rfl
    rw [st, e, jadd, jadd]
    have w1 : ways o L i + pwr o i (L - 1) = ways o L (i + 1) := rfl
    have w2 : ways o L (min i f) + (if i < f then pwr o i (L - 1) else 0) = ways o L (min (i + 1) f) := by
      by_cases q : i < f
      · rw [if_pos q, Nat.min_eq_left (by omega), Nat.min_eq_left (by omega)]; rfl
      · rw [if_neg q, Nat.min_eq_right (by omega), Nat.min_eq_right (by omega)]; rfl
    rw [w1, w2]
theorem y_ways_i {h : Mem} {o L i n : Nat} (ho : 1 ≤ o ∧ o ≤ 9) (hL : 1 ≤ L ∧ L ≤ 12) (hi : i < 12) (hn : n ≤ 12) {x : Int64} : ∀ (m k : Nat), k + m = L - 1 → rX m_M_waysOf m_M_waysOf 17 [.int (iv o), .int (iv n), .int (iv L), .long x, dd, .int (iv i), .long (jv (pwr o i k : Nat)), dd, .int (iv k)] [] h = rX m_M_waysOf m_M_waysOf 5 [.int (iv o), .int (iv n), .int (iv L), .long (x + jv (pwr o i (L - 1) : Nat)), dd, .int (iv ((i + 1 : Nat) : Int)), dd, dd, dd] [] h := by
  intro m
  induction m with
  | zero =>
    intro k hk
    rw [show L - 1 = k by omega]
    (rw [q_M_waysOf_17]; simp (disch := first | decide | omega | (simp (disch := first | decide | omega) only [sv_s, sv_o, ur_s, ur_e, ur_o]; omega)) only [↓reduceIte, iv_add, iv_sub, iv_mul, iv_neg, iv_ltT, iv_ltF, iv_leT, iv_leF, iv_eqT, iv_eqF, iv_div, iv_mod, ↓bnI_s, ↓bnV_s, ↓bnJ_s, ↓bnR_s, rt_e, rt_0, rt_bz, sv_s, sv_o, ur_s, ur_e, ur_o, bz_T, bz_F, nat_eqF, Nat.reduceAdd, il_0, il_1, il_5, il_10, il_17, Int.natCast_add, Int.natCast_one])
  | succ m ih =>
    intro k hk
    rw [← ih (k + 1) (by omega)]
    show _ = rX m_M_waysOf m_M_waysOf 17 [.int (iv o), .int (iv n), .int (iv L), .long x, dd, .int (iv i), .long (jv ((pwr o i k * (if k < i then 10 - o else o) : Nat) : Int)), dd, .int (iv ((k + 1 : Nat) : Int))] [] h
    by_cases q : k < i
    · rw [if_pos q]
      have e : (10 : Int) - (o : Int) = ((10 - o : Nat) : Int) := by omega
      (rw [q_M_waysOf_17]; simp (disch := first | decide | omega | (simp (disch := first | decide | omega) only [sv_s, sv_o, ur_s, ur_e, ur_o]; omega)) only [↓reduceIte, iv_add, iv_sub, iv_mul, iv_neg, iv_ltT, iv_ltF, iv_leT, iv_leF, iv_eqT, iv_eqF, iv_div, iv_mod, ↓bnI_s, ↓bnV_s, ↓bnJ_s, ↓bnR_s, rt_e, rt_0, rt_bz, sv_s, sv_o, ur_s, ur_e, ur_o, bz_T, bz_F, nat_eqF, Nat.reduceAdd, il_0, il_1, il_5, il_10, il_17, il_10, e, jl, jmul, Int.natCast_add, Int.natCast_one])
    · rw [if_neg q]
      (rw [q_M_waysOf_17]; simp (disch := first | decide | omega | (simp (disch := first | decide | omega) only [sv_s, sv_o, ur_s, ur_e, ur_o]; omega)) only [↓reduceIte, iv_add, iv_sub, iv_mul, iv_neg, iv_ltT, iv_ltF, iv_leT, iv_leF, iv_eqT, iv_eqF, iv_div, iv_mod, ↓bnI_s, ↓bnV_s, ↓bnJ_s, ↓bnR_s, rt_e, rt_0, rt_bz, sv_s, sv_o, ur_s, ur_e, ur_o, bz_T, bz_F, nat_eqF, Nat.reduceAdd, il_0, il_1, il_5, il_10, il_17, il_10, jl, jmul, Int.natCast_add, Int.natCast_one])
theorem y_ways_o {h : Mem} {o L n : Nat} (ho : 1 ≤ o ∧ o ≤ 9) (hL : 1 ≤ L ∧ L ≤ 12) (hn : n ≤ 12) : ∀ (m i : Nat), i + m = n → rX m_M_waysOf m_M_waysOf 5 [.int (iv o), .int (iv n), .int (iv L), .long (jv (ways o L i : Nat)), dd, .int (iv i), dd, dd, dd] [] h = some (.long (jv (ways o L n : Nat)), h) := by
  intro m
  induction m with
  | zero =>
    intro i hi
    rw [show i = n by omega]
    (rw [q_M_waysOf_5]; simp (disch := first | decide | omega | (simp (disch := first | decide | omega) only [sv_s, sv_o, ur_s, ur_e, ur_o]; omega)) only [↓reduceIte, iv_add, iv_sub, iv_mul, iv_neg, iv_ltT, iv_ltF, iv_leT, iv_leF, iv_eqT, iv_eqF, iv_div, iv_mod, ↓bnI_s, ↓bnV_s, ↓bnJ_s, ↓bnR_s, rt_e, rt_0, rt_bz, sv_s, sv_o, ur_s, ur_e, ur_o, bz_T, bz_F, nat_eqF, Nat.reduceAdd, il_0, il_1, il_5, il_17])
  | succ m ih =>
    intro i hi
    rw [← ih (i + 1) (by omega)]
    have e := y_ways_i (h := h) (x := jv (ways o L i : Nat)) ho hL (show i < 12 by omega) hn (L - 1) 0 (by omega)
    have st : rX m_M_waysOf m_M_waysOf 5 [.int (iv o), .int (iv n), .int (iv L), .long (jv (ways o L i : Nat)), dd, .int (iv i), dd, dd, dd] [] h = rX m_M_waysOf m_M_waysOf 17 [.int (iv o), .int (iv n), .int (iv L), .long (jv (ways o L i : Nat)), dd, .int (iv i), .long (jv (pwr o i 0 : Nat)), dd, .int (iv ((0 : Nat) : Int))] [] h := by
      (rw [q_M_waysOf_5]; simp (disch := first | decide | omega | (simp (disch := first | decide | omega) only [sv_s, sv_o, ur_s, ur_e, ur_o]; omega)) only [↓reduceIte, iv_add, iv_sub, iv_mul, iv_neg, iv_ltT, iv_ltF, iv_leT, iv_leF, iv_eqT, iv_eqF, iv_div, iv_mod, ↓bnI_s, ↓bnV_s, ↓bnJ_s, ↓bnR_s, rt_e, rt_0, rt_bz, sv_s, sv_o, ur_s, ur_e, ur_o, bz_T, bz_F, nat_eqF, Nat.reduceAdd, il_0, il_1, il_5, il_17])
      rfl
    rw [st, e, jadd]
    rfl
theorem y_waysOf {h : Mem} {o L n : Nat} (ho : 1 ≤ o ∧ o ≤ 9) (hL : 1 ≤ L ∧ L ≤ 12) (hn : n ≤ 12) : cA m_M_waysOf [.int (iv o), .int (iv n), .int (iv L)] h = some (.long (jv (ways o L n : Nat)), h) := by
  rw [q_M_waysOf, il_0]
  exact y_ways_o ho hL hn n 0 (by omega)
/-- a pair of calls that answer a long -/
def Pj (V J : Vm) (z : Zz) (X M : Mem → Rs) : Prop := ∃ e V1 J1 V2 J2, X (em V J z) = some (.long (jv e), em V1 J1 z) ∧ core V1 = core V ∧ M (em V1 J1 z) = some (.long (jv e), em V2 J2 z) ∧ core V2 = core V
theorem p_near (F : Fix z) {o f L l : Int} (ho : (-2147483648 ≤ o ∧ o < 2147483648)) (hf : (-2147483648 ≤ f ∧ f < 2147483648)) (hL : (-2147483648 ≤ L ∧ L < 2147483648)) (hl : l = 0 ∨ l = 1) : Pj V J z (fun h => cA m_X_near [.ref 8, .int (iv o), .int (iv f), .int (iv L), .int (iv l)] h) (fun h => cA m_M_near [.ref 435, .int (iv o), .int (iv f), .int (iv L), .int (iv l)] h) := by
  have m1 : (-1 : Int64) = jv (-1) := rfl
  by_cases h1 : 1 ≤ o ∧ o ≤ 9
  · by_cases h2 : 1 ≤ L ∧ L ≤ 12
    · by_cases h3 : 0 ≤ f ∧ f ≤ L
      · obtain ⟨o, rfl⟩ := Int.eq_ofNat_of_zero_le (show 0 ≤ o by omega)
        obtain ⟨L, rfl⟩ := Int.eq_ofNat_of_zero_le (show 0 ≤ L by omega)
        obtain ⟨f, rfl⟩ := Int.eq_ofNat_of_zero_le h3.1
        have w1 := ways_rg (o := o) (L := L) (by omega) (by omega) f
        have w2 := ways_rg (o := o) (L := L) (by omega) (by omega) L
        have w3 : 0 < ways o L L := by
          obtain ⟨L', rfl⟩ : ∃ L', L = L' + 1 := ⟨L - 1, by omega⟩
          have := (pwr_12 (o := o) (by omega) L' (k := L' + 1 - 1) (by omega)).1
          show 0 < ways o (L' + 1) L' + pwr o L' (L' + 1 - 1)
          omega
        have gp : 0 < Nat.gcd (ways o L f) (ways o L L) := Nat.gcd_pos_of_pos_right _ w3
        have gl : Nat.gcd (ways o L f) (ways o L L) ≤ ways o L L := Nat.gcd_le_right _ w3
        have lo1 := y_lowest (h := em V J z) (x := (ways o L f : Nat)) (a := ways o L f) (b := ways o L L) (by omega) (by omega) (by omega) gp
        have lo2 := y_lowest (h := em V J z) (x := (ways o L L : Nat)) (a := ways o L f) (b := ways o L L) (by omega) (by omega) (by omega) gp
        have ld := y_longDivisor (h := em V J z) (a := ways o L f) (b := ways o L L) (by omega) (by omega)
        have v1 := y_waysOf (h := em V J z) (o := o) (L := L) (n := f) (by omega) (by omega) (by omega)
        have v2 := y_waysOf (h := em V J z) (o := o) (L := L) (n := L) (by omega) (by omega) (by omega)
        have st : ∀ l : Nat, rX m_X_near m_X_near 42 [dd, .int (iv o), .int (iv f), .int (iv L), .int (iv l), .long (jv 0), dd, .long (jv 0), dd, .int (iv 0), dd, dd, dd] [] (em V J z) = rX m_X_near m_X_near 42 [dd, .int (iv o), .int (iv f), .int (iv L), .int (iv l), .long (jv (ways o L f : Nat)), dd, .long (jv (ways o L L : Nat)), dd, .int (iv L), dd, dd, dd] [] (em V J z) := by
          intro l
          have e := y_near_o (h := em V J z) (o := o) (f := f) (L := L) (l := l) (by omega) (by omega) (by omega) L 0 (by omega)
          rw [Nat.min_eq_left (Nat.zero_le f)] at e
          exact e
        have st0 := st 0
        have st1 := st 1
        have dn : (jv ((Nat.gcd (ways o L f) (ways o L L) : Nat) : Int) = 0) = False := by rw [jv_0 (by omega)]; exact eq_false (by omega)
        have d1 : jv (ways o L f : Nat) / jv (Nat.gcd (ways o L f) (ways o L L) : Nat) = jv ((ways o L f : Nat) / (Nat.gcd (ways o L f) (ways o L L) : Nat)) := jv_div (by omega)
        have d2 : jv (ways o L L : Nat) / jv (Nat.gcd (ways o L f) (ways o L L) : Nat) = jv ((ways o L L : Nat) / (Nat.gcd (ways o L f) (ways o L L) : Nat)) := jv_div (by omega)
        rcases hl with rfl | rfl
        · refine ⟨(ways o L f : Nat) / (Nat.gcd (ways o L f) (ways o L L) : Nat), V, J, V, J, ?_, rfl, ?_, rfl⟩
          · show cA _ _ _ = _
            have s : cA m_X_near [.ref 8, .int (iv o), .int (iv f), .int (iv L), .int (iv 0)] (em V J z) = rX m_X_near m_X_near 42 [dd, .int (iv o), .int (iv f), .int (iv L), .int (iv ((0 : Nat) : Int)), .long (jv 0), dd, .long (jv 0), dd, .int (iv 0), dd, dd, dd] [] (em V J z) := by
              simp (disch := first | decide | omega | (simp (disch := first | decide | omega) only [sv_s, sv_o, ur_s, ur_e, ur_o]; omega)) only [↓reduceIte, iv_add, iv_sub, iv_mul, iv_neg, iv_ltT, iv_ltF, iv_leT, iv_leF, iv_eqT, iv_eqF, iv_div, iv_mod, ↓bnI_s, ↓bnV_s, ↓bnJ_s, ↓bnR_s, rt_e, rt_0, rt_bz, sv_s, sv_o, ur_s, ur_e, ur_o, bz_T, bz_F, nat_eqF, Nat.reduceAdd, ↓q_X_near, ↓gd_8 F, il_0, il_1, il_9, il_12, il_26, il_42, y_within]
              rfl
            rw [s, st0]
            (rw [q_X_near_42]; simp (disch := first | decide | omega | (simp (disch := first | decide | omega) only [sv_s, sv_o, ur_s, ur_e, ur_o]; omega)) only [↓reduceIte, iv_add, iv_sub, iv_mul, iv_neg, iv_ltT, iv_ltF, iv_leT, iv_leF, iv_eqT, iv_eqF, iv_div, iv_mod, ↓bnI_s, ↓bnV_s, ↓bnJ_s, ↓bnR_s, rt_e, rt_0, rt_bz, sv_s, sv_o, ur_s, ur_e, ur_o, bz_T, bz_F, nat_eqF, Nat.reduceAdd, il_0, il_1, il_42, il_54, lo1])
          · simp (disch := first | decide | omega | (simp (disch := first | decide | omega) only [sv_s, sv_o, ur_s, ur_e, ur_o]; omega)) only [↓reduceIte, iv_add, iv_sub, iv_mul, iv_neg, iv_ltT, iv_ltF, iv_leT, iv_leF, iv_eqT, iv_eqF, iv_div, iv_mod, ↓bnI_s, ↓bnV_s, ↓bnJ_s, ↓bnR_s, rt_e, rt_0, rt_bz, sv_s, sv_o, ur_s, ur_e, ur_o, bz_T, bz_F, nat_eqF, Nat.reduceAdd, ↓q_M_near, ↓gd_435 F, il_0, il_1, il_9, il_12, il_27, y_isIn, v1, v2, ld, dn, d1]
        · refine ⟨(ways o L L : Nat) / (Nat.gcd (ways o L f) (ways o L L) : Nat), V, J, V, J, ?_, rfl, ?_, rfl⟩
          · show cA _ _ _ = _
            have s : cA m_X_near [.ref 8, .int (iv o), .int (iv f), .int (iv L), .int (iv 1)] (em V J z) = rX m_X_near m_X_near 42 [dd, .int (iv o), .int (iv f), .int (iv L), .int (iv ((1 : Nat) : Int)), .long (jv 0), dd, .long (jv 0), dd, .int (iv 0), dd, dd, dd] [] (em V J z) := by
              simp (disch := first | decide | omega | (simp (disch := first | decide | omega) only [sv_s, sv_o, ur_s, ur_e, ur_o]; omega)) only [↓reduceIte, iv_add, iv_sub, iv_mul, iv_neg, iv_ltT, iv_ltF, iv_leT, iv_leF, iv_eqT, iv_eqF, iv_div, iv_mod, ↓bnI_s, ↓bnV_s, ↓bnJ_s, ↓bnR_s, rt_e, rt_0, rt_bz, sv_s, sv_o, ur_s, ur_e, ur_o, bz_T, bz_F, nat_eqF, Nat.reduceAdd, ↓q_X_near, ↓gd_8 F, il_0, il_1, il_9, il_12, il_26, il_42, y_within]
              rfl
            rw [s, st1]
            (rw [q_X_near_42]; simp (disch := first | decide | omega | (simp (disch := first | decide | omega) only [sv_s, sv_o, ur_s, ur_e, ur_o]; omega)) only [↓reduceIte, iv_add, iv_sub, iv_mul, iv_neg, iv_ltT, iv_ltF, iv_leT, iv_leF, iv_eqT, iv_eqF, iv_div, iv_mod, ↓bnI_s, ↓bnV_s, ↓bnJ_s, ↓bnR_s, rt_e, rt_0, rt_bz, sv_s, sv_o, ur_s, ur_e, ur_o, bz_T, bz_F, nat_eqF, Nat.reduceAdd, il_0, il_1, il_42, il_54, lo2])
          · simp (disch := first | decide | omega | (simp (disch := first | decide | omega) only [sv_s, sv_o, ur_s, ur_e, ur_o]; omega)) only [↓reduceIte, iv_add, iv_sub, iv_mul, iv_neg, iv_ltT, iv_ltF, iv_leT, iv_leF, iv_eqT, iv_eqF, iv_div, iv_mod, ↓bnI_s, ↓bnV_s, ↓bnJ_s, ↓bnR_s, rt_e, rt_0, rt_bz, sv_s, sv_o, ur_s, ur_e, ur_o, bz_T, bz_F, nat_eqF, Nat.reduceAdd, ↓q_M_near, ↓gd_435 F, il_0, il_1, il_9, il_12, il_27, y_isIn, v1, v2, ld, dn, d2]
      · exact ⟨-1, V, J, V, J, (by simp (disch := first | decide | omega | (simp (disch := first | decide | omega) only [sv_s, sv_o, ur_s, ur_e, ur_o]; omega)) only [↓reduceIte, iv_add, iv_sub, iv_mul, iv_neg, iv_ltT, iv_ltF, iv_leT, iv_leF, iv_eqT, iv_eqF, iv_div, iv_mod, ↓bnI_s, ↓bnV_s, ↓bnJ_s, ↓bnR_s, rt_e, rt_0, rt_bz, sv_s, sv_o, ur_s, ur_e, ur_o, bz_T, bz_F, nat_eqF, Nat.reduceAdd, ↓q_X_near, ↓gd_8 F, il_0, il_1, il_9, il_12, il_26, il_42, y_within, m1]), rfl, (by simp (disch := first | decide | omega | (simp (disch := first | decide | omega) only [sv_s, sv_o, ur_s, ur_e, ur_o]; omega)) only [↓reduceIte, iv_add, iv_sub, iv_mul, iv_neg, iv_ltT, iv_ltF, iv_leT, iv_leF, iv_eqT, iv_eqF, iv_div, iv_mod, ↓bnI_s, ↓bnV_s, ↓bnJ_s, ↓bnR_s, rt_e, rt_0, rt_bz, sv_s, sv_o, ur_s, ur_e, ur_o, bz_T, bz_F, nat_eqF, Nat.reduceAdd, ↓q_M_near, ↓gd_435 F, il_0, il_1, il_9, il_12, il_27, y_isIn, m1]), rfl⟩
    · exact ⟨-1, V, J, V, J, (by simp (disch := first | decide | omega | (simp (disch := first | decide | omega) only [sv_s, sv_o, ur_s, ur_e, ur_o]; omega)) only [↓reduceIte, iv_add, iv_sub, iv_mul, iv_neg, iv_ltT, iv_ltF, iv_leT, iv_leF, iv_eqT, iv_eqF, iv_div, iv_mod, ↓bnI_s, ↓bnV_s, ↓bnJ_s, ↓bnR_s, rt_e, rt_0, rt_bz, sv_s, sv_o, ur_s, ur_e, ur_o, bz_T, bz_F, nat_eqF, Nat.reduceAdd, ↓q_X_near, ↓gd_8 F, il_0, il_1, il_9, il_12, il_26, il_42, y_within, m1]), rfl, (by simp (disch := first | decide | omega | (simp (disch := first | decide | omega) only [sv_s, sv_o, ur_s, ur_e, ur_o]; omega)) only [↓reduceIte, iv_add, iv_sub, iv_mul, iv_neg, iv_ltT, iv_ltF, iv_leT, iv_leF, iv_eqT, iv_eqF, iv_div, iv_mod, ↓bnI_s, ↓bnV_s, ↓bnJ_s, ↓bnR_s, rt_e, rt_0, rt_bz, sv_s, sv_o, ur_s, ur_e, ur_o, bz_T, bz_F, nat_eqF, Nat.reduceAdd, ↓q_M_near, ↓gd_435 F, il_0, il_1, il_9, il_12, il_27, y_isIn, m1]), rfl⟩
  · exact ⟨-1, V, J, V, J, (by simp (disch := first | decide | omega | (simp (disch := first | decide | omega) only [sv_s, sv_o, ur_s, ur_e, ur_o]; omega)) only [↓reduceIte, iv_add, iv_sub, iv_mul, iv_neg, iv_ltT, iv_ltF, iv_leT, iv_leF, iv_eqT, iv_eqF, iv_div, iv_mod, ↓bnI_s, ↓bnV_s, ↓bnJ_s, ↓bnR_s, rt_e, rt_0, rt_bz, sv_s, sv_o, ur_s, ur_e, ur_o, bz_T, bz_F, nat_eqF, Nat.reduceAdd, ↓q_X_near, ↓gd_8 F, il_0, il_1, il_9, il_12, il_26, il_42, y_within, m1]), rfl, (by simp (disch := first | decide | omega | (simp (disch := first | decide | omega) only [sv_s, sv_o, ur_s, ur_e, ur_o]; omega)) only [↓reduceIte, iv_add, iv_sub, iv_mul, iv_neg, iv_ltT, iv_ltF, iv_leT, iv_leF, iv_eqT, iv_eqF, iv_div, iv_mod, ↓bnI_s, ↓bnV_s, ↓bnJ_s, ↓bnR_s, rt_e, rt_0, rt_bz, sv_s, sv_o, ur_s, ur_e, ur_o, bz_T, bz_F, nat_eqF, Nat.reduceAdd, ↓q_M_near, ↓gd_435 F, il_0, il_1, il_9, il_12, il_27, y_isIn, m1]), rfl⟩
end
