/-! what a deed changes at a table -/
section
variable {V V' : Vm} {A A' : Int → Int} {n : Int} {t : Nat}
theorem Tr_kept (h : Tr V t n A) {k x : Int} (hn : n ≤ 6) (hk : 0 ≤ k ∧ k < n) (hx : 0 ≤ x ∧ x ≤ 99) (e : V' t = V t) (e2 : V' (t + 2) = ur (V (t + 2)) k x) (e3 : V' (t + 3) = V (t + 3)) (e4 : V' (t + 4) = V (t + 4)) (e5 : V' (t + 5) = V (t + 5)) : Tr V' t n (ur A (11 + k) x) := by
  obtain ⟨a1, a2, a3, a4, a5, a6, a7⟩ := h
  unfold Tr
  rw [e, e5, ur_o (show (10 : Int) ≠ 11 + k by omega), ur_o (show (7 : Int) ≠ 11 + k by omega), ur_o (show (8 : Int) ≠ 11 + k by omega), ur_o (show (9 : Int) ≠ 11 + k by omega)]
  refine ⟨fun j j0 j1 => ?_, fun s s0 s1 => ?_, a3, a4, a5, a6, fun i i0 i1 => ?_⟩
  · obtain ⟨c1, c2, c3, c4, c5⟩ := a1 j j0 j1
    unfold Tk
    rw [e2, e3, e4, ur_o (show 17 + j ≠ 11 + k by omega)]
    by_cases q : j = k
    · subst q
      rw [ur_s, ur_s]
      exact ⟨rfl, c2, c3, hx, c5⟩
    · rw [ur_o q, ur_o (show 11 + j ≠ 11 + k by omega)]
      exact ⟨c1, c2, c3, c4, c5⟩
  · obtain ⟨c1, c2⟩ := a2 s s0 s1
    unfold Ts
    rw [e4, ur_o (show 17 + V (t + 4) s ≠ 11 + k by omega)]
    exact ⟨c1, c2⟩
  · rw [ur_o (show 1425 + i ≠ 11 + k by omega)]
    exact a7 i i0 i1
theorem Tr_own (h : Tr V t n A) {p x : Int} (hn : n ≤ 6) (hp : (p = 10 ∧ 0 ≤ x ∧ x < 64) ∨ (p = 7 ∧ 0 ≤ x ∧ x ≤ 9999) ∨ (p = 8 ∧ 0 ≤ x ∧ x < 30971)) (e : V' t = ur (V t) (if p = 10 then 6 else p) x) (e2 : V' (t + 2) = V (t + 2)) (e3 : V' (t + 3) = V (t + 3)) (e4 : V' (t + 4) = V (t + 4)) (e5 : V' (t + 5) = V (t + 5)) : Tr V' t n (ur A p x) := by
  obtain ⟨a1, a2, a3, a4, a5, a6, a7⟩ := h
  unfold Tr
  rw [e, e5]
  have o9 : ur A p x 9 = A 9 := ur_o (by omega)
  refine ⟨fun j j0 j1 => ?_, fun s s0 s1 => ?_, ?_, ?_, ?_, ?_, fun i i0 i1 => ?_⟩
  · obtain ⟨c1, c2, c3, c4, c5⟩ := a1 j j0 j1
    unfold Tk
    rw [e2, e3, e4, ur_o (show 17 + j ≠ p by omega), ur_o (show 11 + j ≠ p by omega)]
    exact ⟨c1, c2, c3, c4, c5⟩
  · obtain ⟨c1, c2⟩ := a2 s s0 s1
    unfold Ts
    rw [e4, ur_o (show 17 + V (t + 4) s ≠ p by omega)]
    exact ⟨c1, c2⟩
  · rcases hp with ⟨rfl, h⟩ | ⟨rfl, h⟩ | ⟨rfl, h⟩
    · rw [if_pos rfl, ur_s, ur_s]; exact ⟨rfl, h⟩
    · rw [if_neg (by decide), ur_o (by decide), ur_o (by decide)]; exact a3
    · rw [if_neg (by decide), ur_o (by decide), ur_o (by decide)]; exact a3
  · rcases hp with ⟨rfl, h⟩ | ⟨rfl, h⟩ | ⟨rfl, h⟩
    · rw [if_pos rfl, ur_o (by decide), ur_o (by decide)]; exact a4
    · rw [if_neg (by decide), ur_s, ur_s]; exact ⟨rfl, h⟩
    · rw [if_neg (by decide), ur_o (by decide), ur_o (by decide)]; exact a4
  · rcases hp with ⟨rfl, h⟩ | ⟨rfl, h⟩ | ⟨rfl, h⟩
    · rw [if_pos rfl, ur_o (by decide), ur_o (by decide)]; exact a5
    · rw [if_neg (by decide), ur_o (by decide), ur_o (by decide)]; exact a5
    · rw [if_neg (by decide), ur_s, ur_s]; exact ⟨rfl, h⟩
  · rw [o9]
    rcases hp with ⟨rfl, h⟩ | ⟨rfl, h⟩ | ⟨rfl, h⟩
    · rw [if_pos rfl, ur_o (by decide)]; exact a6
    · rw [if_neg (by decide), ur_o (by decide)]; exact a6
    · rw [if_neg (by decide), ur_o (by decide)]; exact a6
  · rw [o9] at i1
    rw [ur_o (show 1425 + i ≠ p by omega)]
    exact a7 i i0 i1
theorem Tr_swap (h : Tr V t n A) {a b : Int} (hn : n ≤ 6) (ha : 0 ≤ a ∧ a < n) (hb : 0 ≤ b ∧ b < n) (hab : a ≠ b) (e : V' t = V t) (e2 : V' (t + 2) = V (t + 2)) (e3 : V' (t + 3) = ur (ur (V (t + 3)) a (V (t + 3) b)) b (V (t + 3) a)) (e4 : V' (t + 4) = ur (ur (V (t + 4)) (V (t + 3) a) b) (V (t + 3) b) a) (e5 : V' (t + 5) = V (t + 5)) : Tr V' t n (swp A a b) := by
  obtain ⟨a1, a2, a3, a4, a5, a6, a7⟩ := h
  obtain ⟨p1, p2, p3, p4, p5⟩ := a1 a ha.1 ha.2
  obtain ⟨q1, q2, q3, q4, q5⟩ := a1 b hb.1 hb.2
  rw [p2, q2] at e3 e4
  have ne : A (17 + a) ≠ A (17 + b) := fun x => hab (by rw [← p3, x, q3])
  unfold Tr
  rw [e, e5, swp_o (show (10 : Int) ≠ 17 + a by omega) (by omega), swp_o (show (7 : Int) ≠ 17 + a by omega) (by omega), swp_o (show (8 : Int) ≠ 17 + a by omega) (by omega), swp_o (show (9 : Int) ≠ 17 + a by omega) (by omega)]
  refine ⟨fun j j0 j1 => ?_, fun s s0 s1 => ?_, a3, a4, a5, a6, fun i i0 i1 => ?_⟩
  · obtain ⟨c1, c2, c3, c4, c5⟩ := a1 j j0 j1
    unfold Tk
    rw [e2, e3, e4, swp_o (show 11 + j ≠ 17 + a by omega) (by omega), swp_a]
    by_cases u : j = b
    · subst u
      rw [if_pos rfl, ur_s, ur_o ne, ur_s]
      exact ⟨c1, rfl, rfl, c4, p5⟩
    · rw [if_neg u, ur_o u]
      by_cases w : j = a
      · subst w
        rw [if_pos rfl, ur_s, ur_s]
        exact ⟨c1, rfl, rfl, c4, q5⟩
      · rw [if_neg w, ur_o w, ur_o (fun x => u (by rw [← c3, x, q3])), ur_o (fun x => w (by rw [← c3, x, p3]))]
        exact ⟨c1, c2, c3, c4, c5⟩
  · obtain ⟨c1, c2⟩ := a2 s s0 s1
    unfold Ts
    rw [e4]
    by_cases u : s = A (17 + b)
    · rw [u, ur_s, swp_a, if_neg hab, if_pos rfl]
      exact ⟨ha, rfl⟩
    · rw [ur_o u]
      by_cases w : s = A (17 + a)
      · rw [w, ur_s, swp_a, if_pos rfl]
        exact ⟨hb, rfl⟩
      · rw [ur_o w, swp_a, if_neg (fun x => u (by rw [← c2, x])), if_neg (fun x => w (by rw [← c2, x]))]
        exact ⟨c1, c2⟩
  · rw [swp_o (show 1425 + i ≠ 17 + a by omega) (by omega)]
    exact a7 i i0 i1
/-- a strap turned -/
def sx (x k : Int) : Int := (iv x ^^^ (iv 1 <<< (iv k &&& iv 31))).toInt
theorem sx_iv {x k : Int} : iv x ^^^ (iv 1 <<< (iv k &&& iv 31)) = iv (sx x k) := (Int32.ofInt_toInt _).symm
theorem sx_n : ∀ x : Nat, x < 64 → ∀ k : Nat, k < 6 → 0 ≤ sx x k ∧ sx x k < 64 := by decide +kernel
theorem sx_r {x k : Int} (hx : 0 ≤ x ∧ x < 64) (hk : 0 ≤ k ∧ k < 6) : 0 ≤ sx x k ∧ sx x k < 64 := by
  obtain ⟨m, rfl⟩ := Int.eq_ofNat_of_zero_le hx.1
  obtain ⟨l, rfl⟩ := Int.eq_ofNat_of_zero_le hk.1
  exact sx_n m (by omega) l (by omega)
end
section
variable {TX : Vm → Zz → Nat → Int → Prop} {I0 : Nat → Nat → Int32} {V J : Vm} {z : Zz}
theorem y_save (F : Fix z) (g : GI TX I0 V z) : ∃ V1, cA m_House_saveStep [.ref 9] (em V J z) = some (.null, em V1 J z) ∧ (∀ a k, ¬ (30 ≤ a ∧ a < 210) → ¬ (a = 9 ∧ (k = 9 ∨ k = 10)) → V1 a k = V a k) ∧ ∀ U : Vm, U 436 = V 436 → ∃ V2, cA m_M_keep [.ref 435] (em U J z) = some (.null, em V2 J z) ∧ (∀ a, a ≠ 436 → V2 a = U a) ∧ Sts V1 9 (V2 436) ∧ (∀ k, k ≠ 3 → k < 165 ∨ 1425 ≤ k → V2 436 k = V 436 k) ∧ ∀ i, 0 ≤ i → i + 1 = V2 436 3 → snp (V2 436) i 0 = V2 436 0 := by
  obtain ⟨n, s, _⟩ := g.1
  have s0 := s
  obtain ⟨s1, s2, s3, s4⟩ := s
  obtain ⟨W, V1, e1, e2, e3⟩ := y_saveStep (J := J) F s3 (by omega)
  refine ⟨V1, e1, fun a k h1 h2 => ?_, fun U hU => ?_⟩
  · have w : W a = V a := e2.1 a (by omega)
    have w9 : W 9 = V 9 := e2.1 9 (by omega)
    rw [e3]
    split
    · by_cases q : a = 9
      · subst q
        rw [show sv W 9 10 (V 9 10 + 1) 9 k = W 9 k by simp (disch := first | decide | omega | (simp (disch := first | decide | omega) only [sv_s, sv_o, ur_s, ur_e, ur_o]; omega)) only [↓reduceIte, iv_add, iv_sub, iv_mul, iv_neg, iv_ltT, iv_ltF, iv_leT, iv_leF, iv_eqT, iv_eqF, iv_div, iv_mod, ↓bnI_s, ↓bnV_s, ↓bnJ_s, ↓bnR_s, rt_e, rt_0, rt_bz, sv_s, sv_o, ur_s, ur_e, ur_o, bz_T, bz_F, nat_eqF, Nat.reduceAdd], w9]
      · simp (disch := first | decide | omega | (simp (disch := first | decide | omega) only [sv_s, sv_o, ur_s, ur_e, ur_o]; omega)) only [↓reduceIte, iv_add, iv_sub, iv_mul, iv_neg, iv_ltT, iv_ltF, iv_leT, iv_leF, iv_eqT, iv_eqF, iv_div, iv_mod, ↓bnI_s, ↓bnV_s, ↓bnJ_s, ↓bnR_s, rt_e, rt_0, rt_bz, sv_s, sv_o, ur_s, ur_e, ur_o, bz_T, bz_F, nat_eqF, Nat.reduceAdd, w]
    · by_cases q : a = 9
      · subst q
        rw [show sv W 9 9 ((V 9 9 + 1) % 30) 9 k = W 9 k by simp (disch := first | decide | omega | (simp (disch := first | decide | omega) only [sv_s, sv_o, ur_s, ur_e, ur_o]; omega)) only [↓reduceIte, iv_add, iv_sub, iv_mul, iv_neg, iv_ltT, iv_ltF, iv_leT, iv_leF, iv_eqT, iv_eqF, iv_div, iv_mod, ↓bnI_s, ↓bnV_s, ↓bnJ_s, ↓bnR_s, rt_e, rt_0, rt_bz, sv_s, sv_o, ur_s, ur_e, ur_o, bz_T, bz_F, nat_eqF, Nat.reduceAdd], w9]
      · simp (disch := first | decide | omega | (simp (disch := first | decide | omega) only [sv_s, sv_o, ur_s, ur_e, ur_o]; omega)) only [↓reduceIte, iv_add, iv_sub, iv_mul, iv_neg, iv_ltT, iv_ltF, iv_leT, iv_leF, iv_eqT, iv_eqF, iv_div, iv_mod, ↓bnI_s, ↓bnV_s, ↓bnJ_s, ↓bnR_s, rt_e, rt_0, rt_bz, sv_s, sv_o, ur_s, ur_e, ur_o, bz_T, bz_F, nat_eqF, Nat.reduceAdd, w]
  · obtain ⟨B, V2, f1, f2, f3, f4⟩ := y_keep (V := U) (J := J) F (by rw [hU]; exact s2)
    rw [hU] at f3
    have hB : 0 ≤ B 3 ∧ B 3 < 30 := by
      rcases f3 with ⟨h1, rfl⟩ | h
      · omega
      · omega
    have bo : ∀ k, k ≠ 3 → k < 165 ∨ 1425 ≤ k → V2 436 k = V 436 k := by
      intro k k3 hk
      rw [Kp_old hB f4 (by omega)]
      rcases f3 with ⟨_, rfl⟩ | h
      · rfl
      · rw [h.2.2 k k3, if_neg (by omega)]
    refine ⟨V2, f1, f2, Sts_save s0 n e2 e3 f3 f4, bo, fun i i0 i1 => ?_⟩
    rw [f4.1] at i1
    rw [show i = B 3 by omega, Kp_new hB f4 0 (by omega), Kp_old hB f4 (by omega)]
/-- the invariant behind a step -/
theorem GI_S (T : TXok TX) (g : GI TX I0 V z) {V1 V3 : Vm} {A : Int → Int} (h1 : ∀ a k, ¬ (30 ≤ a ∧ a < 210) → ¬ (a = 9 ∧ (k = 9 ∨ k = 10)) → V1 a k = V a k) (s : Sts V1 9 A) (ho : ∀ k, k ≠ 3 → k < 165 ∨ 1425 ≤ k → A k = V 436 k) (last : ∀ i, 0 ≤ i → i + 1 = A 3 → snp A i 0 = A 0) (hv : ∀ a, a ≠ 436 → ¬ (10 ≤ a ∧ a < 16) → V3 a = V1 a) (hc : ∀ k, k < 7 ∨ (23 ≤ k ∧ k < 1425) → V3 436 k = A k) (t : Tr V3 10 (V 436 0) (V3 436)) (c5 : V3 10 5 = V 10 5) (c1 : V3 11 = V 11) : GI TX I0 V3 z := by
  obtain ⟨n1, n2, n3, n4⟩ := g.1.1
  have z0 : V3 436 0 = V 436 0 := by rw [hc 0 (by omega), ho 0 (by omega) (by omega)]
  refine GI_K T g (fun a k _ q1 q2 q3 q4 => by rw [hv a q4 q1, h1 a k q2 q3]) (fun k hk => by rw [hc k (by omega), ho k (by omega) (by omega)]) (by omega) ?_ ?_
  · refine ⟨?_, by omega, fun k k0 k1 => ?_, by rw [z0]; exact t⟩
    · rw [z0]; exact c5.trans n1
    · rw [z0] at k1
      rw [hc (23 + k) (by omega), ho (23 + k) (by omega) (by omega), hc (29 + k) (by omega), ho (29 + k) (by omega) (by omega), show (10 : Nat) + 1 = 11 from rfl, c1]
      exact n3 k k0 k1
  · have v9 : V3 9 = V1 9 := hv 9 (by decide) (by decide)
    exact Sts_cur s (by rw [v9]) (by rw [v9]) (fun a a0 a1 => hv a (by omega) (by omega)) (hc 0 (by omega)) (hc 3 (by omega)) (fun k k0 k1 => hc k (by omega)) (fun k k0 k1 => hc k (by omega)) last
end
