/-! seats: who is where -/
def wt (A : Int → Int) (s : Int) : Nat → Int → Int
  | 0, k => k
  | m + 1, k => if A (17 + k) = s then k else wt A s m (k + 1)
/-- the first who sits there -/
def wat (A : Int → Int) (s : Int) : Int := wt A s 5 0
/-- who sits so many seats further on -/
def fur (A : Int → Int) (k b : Int) : Int := wat A ((A (17 + k) + b) % A 0)
/-- the seats of n kin are all taken -/
def PS (A : Int → Int) : Prop := (0 ≤ A 0 ∧ A 0 ≤ 6) ∧ (∀ k, 0 ≤ k → k < A 0 → 0 ≤ A (17 + k) ∧ A (17 + k) < A 0) ∧ (∀ s, 0 ≤ s → s < A 0 → ∃ k, 0 ≤ k ∧ k < A 0 ∧ A (17 + k) = s) ∧ (∀ j k, (0 ≤ j ∧ j < A 0) → (0 ≤ k ∧ k < A 0) → A (17 + j) = A (17 + k) → j = k)
theorem PS.inj {A : Int → Int} (h : PS A) {a b : Int} (ha : 0 ≤ a ∧ a < A 0) (hb : 0 ≤ b ∧ b < A 0) (e : A (17 + a) = A (17 + b)) : a = b := h.2.2.2 a b ha hb e
theorem wt_spec {A : Int → Int} {s : Int} : ∀ (m : Nat) (k j : Int), k ≤ j → j ≤ k + m → A (17 + j) = s → k ≤ wt A s m k ∧ wt A s m k ≤ j ∧ A (17 + wt A s m k) = s := by
  intro m
  induction m with
  | zero =>
    intro k j h1 h2 h3
    have e : j = k := by omega
    subst e
    exact ⟨Int.le_refl _, Int.le_refl _, h3⟩
  | succ m ih =>
    intro k j h1 h2 h3
    show k ≤ (if A (17 + k) = s then k else wt A s m (k + 1)) ∧ (if A (17 + k) = s then k else wt A s m (k + 1)) ≤ j ∧ A (17 + (if A (17 + k) = s then k else wt A s m (k + 1))) = s
    by_cases q : A (17 + k) = s
    · rw [if_pos q]
      exact ⟨Int.le_refl _, h1, q⟩
    · rw [if_neg q]
      have : k ≠ j := fun e => q (by rw [e]; exact h3)
      obtain ⟨a, b, c⟩ := ih (k + 1) j (by omega) (by omega) h3
      exact ⟨by omega, b, c⟩
theorem PS.wt_ {A : Int → Int} (h : PS A) {s : Int} (hs : 0 ≤ s ∧ s < A 0) : (0 ≤ wat A s ∧ wat A s < A 0) ∧ A (17 + wat A s) = s := by
  obtain ⟨k, k0, k1, k2⟩ := h.2.2.1 s hs.1 hs.2
  have h6 := h.1.2
  obtain ⟨a, b, c⟩ := wt_spec (A := A) (s := s) 5 0 k k0 (by omega) k2
  exact ⟨⟨a, by have : wat A s ≤ k := b; omega⟩, c⟩
theorem PS.fr_ {A : Int → Int} (h : PS A) {k b : Int} (hk : 0 ≤ k ∧ k < A 0) (hb : 0 ≤ b) : 0 ≤ fur A k b ∧ fur A k b < A 0 := by
  have hs := h.2.1 k hk.1 hk.2
  exact (h.wt_ ⟨Int.emod_nonneg _ (by omega), Int.emod_lt_of_pos _ (by omega)⟩).1
theorem Tr.ps {V : Vm} {t : Nat} {A : Int → Int} (n : 0 ≤ A 0 ∧ A 0 ≤ 6) (h : Tr V t (A 0) A) : PS A :=
  ⟨n, fun k k0 k1 => (h.1 k k0 k1).2.2.2.2, fun s s0 s1 => ⟨V (t + 4) s, (h.2.1 s s0 s1).1.1, (h.2.1 s s0 s1).1.2, (h.2.1 s s0 s1).2⟩, fun j k hj hk e => by
    have a := (h.1 j hj.1 hj.2).2.2.1
    have b := (h.1 k hk.1 hk.2).2.2.1
    rw [e] at a
    exact a.symm.trans b⟩
theorem Tr.at {V : Vm} {t : Nat} {A : Int → Int} (n : 0 ≤ A 0 ∧ A 0 ≤ 6) (h : Tr V t (A 0) A) {s : Int} (hs : 0 ≤ s ∧ s < A 0) : V (t + 4) s = wat A s := by
  have w := (h.ps n).wt_ hs
  have k := h.1 _ w.1.1 w.1.2
  have e := k.2.2.1
  rw [w.2] at e
  exact e
section
variable {V J : Vm} {z : Zz}
theorem y_whoFrom {t : Nat} (T : Tab z t) {A : Int → Int} (hn : V t 5 = A 0) (n : 0 ≤ A 0 ∧ A 0 ≤ 6) (R : Tr V t (A 0) A) {k f : Int} (hk : 0 ≤ k ∧ k < A 0) (hf : 0 ≤ f ∧ f ≤ 100) : cA m_Table_whoFrom [.ref t, .int (iv k), .int (iv f)] (em V J z) = some (.int (iv (fur A k f)), em V J z) := by
  obtain ⟨r1, r2, r3, r4, r5⟩ := R.1 k hk.1 hk.2
  have m0 := Int.emod_nonneg (A (17 + k) + f) (show A 0 ≠ 0 by omega)
  have m1 := Int.emod_lt_of_pos (A (17 + k) + f) (show 0 < A 0 by omega)
  have e := R.at n ⟨m0, m1⟩
  have w := ((R.ps n).wt_ ⟨m0, m1⟩).1
  unfold fur
  generalize wat A ((A (17 + k) + f) % A 0) = y at *
  generalize hm : (A (17 + k) + f) % A 0 = x at *
  simp (disch := first | decide | omega | (simp (disch := first | decide | omega) only [sv_s, sv_o, ur_s, ur_e, ur_o]; omega)) only [↓reduceIte, iv_add, iv_sub, iv_mul, iv_neg, iv_ltT, iv_ltF, iv_leT, iv_leF, iv_eqT, iv_eqF, iv_div, iv_mod, ↓bnI_s, ↓bnV_s, ↓bnJ_s, ↓bnR_s, rt_e, rt_0, rt_bz, sv_s, sv_o, ur_s, ur_e, ur_o, bz_T, bz_F, nat_eqF, Nat.reduceAdd, ↓q_Table_whoFrom, ↓gT_5 T, ↓rT_2 T, ↓rT_3 T, ↓lT_1 T, ↓lT_2 T, ↓lT_3 T, ↓lT_4 T, ↓lT_5 T, ↓nT_1 T, ↓nT_2 T, ↓nT_3 T, ↓nT_4 T, ↓nT_5 T, ↓gdT T, il_0, il_1, il_2, il_3, il_5, il_7, il_23, hn, r2, hm, e]
theorem y_whoAt_l (F : Fix z) {s n : Int} (hs : 0 ≤ s ∧ s < 6) (n6 : n ≤ 6) (hr : ∀ j, 0 ≤ j → j < n → 0 ≤ V 436 (17 + j) ∧ V 436 (17 + j) < n) : ∀ (m : Nat) (k : Int), 0 ≤ k → k + m = 5 → (∃ j, k ≤ j ∧ j < n ∧ V 436 (17 + j) = s) → rX m_M_whoAt m_M_whoAt 2 [.ref 435, .int (iv s), .int (iv k)] [] (em V J z) = some (.int (iv (wt (V 436) s m k)), em V J z) := by
  intro m
  induction m with
  | zero =>
    intro k k0 hk ⟨j, j0, j1, j2⟩
    have e : j = k := by omega
    subst e
    show _ = some (Value.int (iv j), em V J z)
    (rw [q_M_whoAt_2]; simp (disch := first | decide | omega | (simp (disch := first | decide | omega) only [sv_s, sv_o, ur_s, ur_e, ur_o]; omega)) only [↓reduceIte, iv_add, iv_sub, iv_mul, iv_neg, iv_ltT, iv_ltF, iv_leT, iv_leF, iv_eqT, iv_eqF, iv_div, iv_mod, ↓bnI_s, ↓bnV_s, ↓bnJ_s, ↓bnR_s, rt_e, rt_0, rt_bz, sv_s, sv_o, ur_s, ur_e, ur_o, bz_T, bz_F, nat_eqF, Nat.reduceAdd, ↓gR_435_0 F, ↓lI_436 F, ↓lI_437 F, ↓lI_438 F, ↓lI_439 F, ↓lI_440 F, ↓lI_441 F, ↓lI_443 F, ↓lI_444 F, ↓lI_445 F, ↓lI_446 F, ↓lI_447 F, ↓lI_448 F, ↓lI_449 F, ↓lI_450 F, il_0, il_1, il_2, il_11, il_17, j2])
  | succ m ih =>
    intro k k0 hk ⟨j, j0, j1, j2⟩
    have r := hr k k0 (by omega)
    show _ = some (Value.int (iv (if V 436 (17 + k) = s then k else wt (V 436) s m (k + 1))), em V J z)
    by_cases q : V 436 (17 + k) = s
    · rw [if_pos q]
      (rw [q_M_whoAt_2]; simp (disch := first | decide | omega | (simp (disch := first | decide | omega) only [sv_s, sv_o, ur_s, ur_e, ur_o]; omega)) only [↓reduceIte, iv_add, iv_sub, iv_mul, iv_neg, iv_ltT, iv_ltF, iv_leT, iv_leF, iv_eqT, iv_eqF, iv_div, iv_mod, ↓bnI_s, ↓bnV_s, ↓bnJ_s, ↓bnR_s, rt_e, rt_0, rt_bz, sv_s, sv_o, ur_s, ur_e, ur_o, bz_T, bz_F, nat_eqF, Nat.reduceAdd, ↓gR_435_0 F, ↓lI_436 F, ↓lI_437 F, ↓lI_438 F, ↓lI_439 F, ↓lI_440 F, ↓lI_441 F, ↓lI_443 F, ↓lI_444 F, ↓lI_445 F, ↓lI_446 F, ↓lI_447 F, ↓lI_448 F, ↓lI_449 F, ↓lI_450 F, il_0, il_1, il_2, il_11, il_17, q])
    · rw [if_neg q, ← ih (k + 1) (by omega) (by omega) ⟨j, by
        by_cases e : k = j
        · rw [e] at q; exact absurd j2 q
        · omega, j1, j2⟩]
      (rw [q_M_whoAt_2]; simp (disch := first | decide | omega | (simp (disch := first | decide | omega) only [sv_s, sv_o, ur_s, ur_e, ur_o]; omega)) only [↓reduceIte, iv_add, iv_sub, iv_mul, iv_neg, iv_ltT, iv_ltF, iv_leT, iv_leF, iv_eqT, iv_eqF, iv_div, iv_mod, ↓bnI_s, ↓bnV_s, ↓bnJ_s, ↓bnR_s, rt_e, rt_0, rt_bz, sv_s, sv_o, ur_s, ur_e, ur_o, bz_T, bz_F, nat_eqF, Nat.reduceAdd, ↓gR_435_0 F, ↓lI_436 F, ↓lI_437 F, ↓lI_438 F, ↓lI_439 F, ↓lI_440 F, ↓lI_441 F, ↓lI_443 F, ↓lI_444 F, ↓lI_445 F, ↓lI_446 F, ↓lI_447 F, ↓lI_448 F, ↓lI_449 F, ↓lI_450 F, il_0, il_1, il_2, il_11, il_17])
theorem y_whoAt (F : Fix z) (h : PS (V 436)) {s : Int} (hs : 0 ≤ s ∧ s < V 436 0) : cA m_M_whoAt [.ref 435, .int (iv s)] (em V J z) = some (.int (iv (wat (V 436) s)), em V J z) := by
  have h6 := h.1
  obtain ⟨k, k0, k1, k2⟩ := h.2.2.1 s hs.1 hs.2
  rw [q_M_whoAt, gd_435 F, il_0]
  exact y_whoAt_l F (by omega) h6.2 h.2.1 5 0 (by omega) (by omega) ⟨k, k0, k1, k2⟩
theorem y_further (F : Fix z) (h : PS (V 436)) {k b : Int} (hk : 0 ≤ k ∧ k < V 436 0) (hb : 0 ≤ b ∧ b ≤ 100) : cA m_M_further [.ref 435, .int (iv k), .int (iv b)] (em V J z) = some (.int (iv (fur (V 436) k b)), em V J z) := by
  have h6 := h.1
  have hs := h.2.1 k hk.1 hk.2
  have m0 := Int.emod_nonneg (V 436 (17 + k) + b) (show V 436 0 ≠ 0 by omega)
  have m1 := Int.emod_lt_of_pos (V 436 (17 + k) + b) (show 0 < V 436 0 by omega)
  have e := y_whoAt (J := J) F h ⟨m0, m1⟩
  unfold fur
  generalize hm : (V 436 (17 + k) + b) % V 436 0 = x at *
  simp (disch := first | decide | omega | (simp (disch := first | decide | omega) only [sv_s, sv_o, ur_s, ur_e, ur_o]; omega)) only [↓reduceIte, iv_add, iv_sub, iv_mul, iv_neg, iv_ltT, iv_ltF, iv_leT, iv_leF, iv_eqT, iv_eqF, iv_div, iv_mod, ↓bnI_s, ↓bnV_s, ↓bnJ_s, ↓bnR_s, rt_e, rt_0, rt_bz, sv_s, sv_o, ur_s, ur_e, ur_o, bz_T, bz_F, nat_eqF, Nat.reduceAdd, ↓q_M_further, ↓gR_435_0 F, ↓lI_436 F, ↓lI_437 F, ↓lI_438 F, ↓lI_439 F, ↓lI_440 F, ↓lI_441 F, ↓lI_443 F, ↓lI_444 F, ↓lI_445 F, ↓lI_446 F, ↓lI_447 F, ↓lI_448 F, ↓lI_449 F, ↓lI_450 F, ↓gd_435 F, il_0, il_1, il_11, il_17, il_27, hm, e]
theorem y_acrossOf (F : Fix z) (h : PS (V 436)) {k : Int} (hk : 0 ≤ k ∧ k < V 436 0) : cA m_M_acrossOf [.ref 435, .int (iv k)] (em V J z) = some (.int (iv (fur (V 436) k (V 436 0 / 2))), em V J z) := by
  have h6 := h.1
  have e := y_further (J := J) F h hk (b := V 436 0 / 2) (by omega)
  simp (disch := first | decide | omega | (simp (disch := first | decide | omega) only [sv_s, sv_o, ur_s, ur_e, ur_o]; omega)) only [↓reduceIte, iv_add, iv_sub, iv_mul, iv_neg, iv_ltT, iv_ltF, iv_leT, iv_leF, iv_eqT, iv_eqF, iv_div, iv_mod, ↓bnI_s, ↓bnV_s, ↓bnJ_s, ↓bnR_s, rt_e, rt_0, rt_bz, sv_s, sv_o, ur_s, ur_e, ur_o, bz_T, bz_F, nat_eqF, Nat.reduceAdd, ↓q_M_acrossOf, ↓gR_435_0 F, ↓lI_436 F, ↓lI_437 F, ↓lI_438 F, ↓lI_439 F, ↓lI_440 F, ↓lI_441 F, ↓lI_443 F, ↓lI_444 F, ↓lI_445 F, ↓lI_446 F, ↓lI_447 F, ↓lI_448 F, ↓lI_449 F, ↓lI_450 F, ↓gd_435 F, il_0, il_1, il_2, il_11, il_27, e]
/-- whether one is strapped, as both ask it -/
abbrev sb (s k : Int) : Prop := (iv s >>> (iv k &&& iv 31)) &&& iv 1 = iv 1
theorem y_isStrapped {t : Nat} (T : Tab z t) {k : Int} : cA m_Table_isStrapped [.ref t, .int (iv k)] (em V J z) = some (.int (iv (bz (sb (V t 6) k))), em V J z) := by
  by_cases q : sb (V t 6) k
  · rw [bz_T q]
    have q2 : (iv (V t 6) >>> (iv k &&& iv 31)) &&& iv 1 = iv 1 := q
    simp (disch := first | decide | omega | (simp (disch := first | decide | omega) only [sv_s, sv_o, ur_s, ur_e, ur_o]; omega)) only [↓reduceIte, iv_add, iv_sub, iv_mul, iv_neg, iv_ltT, iv_ltF, iv_leT, iv_leF, iv_eqT, iv_eqF, iv_div, iv_mod, ↓bnI_s, ↓bnV_s, ↓bnJ_s, ↓bnR_s, rt_e, rt_0, rt_bz, sv_s, sv_o, ur_s, ur_e, ur_o, bz_T, bz_F, nat_eqF, Nat.reduceAdd, ↓q_Table_isStrapped, ↓gT_6 T, ↓gdT T, il_0, il_1, il_6, il_7, il_23, il_31, q2]
  · rw [bz_F q]
    have q2 : ((iv (V t 6) >>> (iv k &&& iv 31)) &&& iv 1 = iv 1) = False := eq_false q
    simp (disch := first | decide | omega | (simp (disch := first | decide | omega) only [sv_s, sv_o, ur_s, ur_e, ur_o]; omega)) only [↓reduceIte, iv_add, iv_sub, iv_mul, iv_neg, iv_ltT, iv_ltF, iv_leT, iv_leF, iv_eqT, iv_eqF, iv_div, iv_mod, ↓bnI_s, ↓bnV_s, ↓bnJ_s, ↓bnR_s, rt_e, rt_0, rt_bz, sv_s, sv_o, ur_s, ur_e, ur_o, bz_T, bz_F, nat_eqF, Nat.reduceAdd, ↓q_Table_isStrapped, ↓gT_6 T, ↓gdT T, il_0, il_1, il_6, il_7, il_23, il_31, q2]
theorem y_M_has {s k : Int} {h : Mem} : cA m_M_has [.int (iv s), .int (iv k)] h = some (.int (iv (bz (sb s k))), h) := by
  by_cases q : sb s k
  · rw [bz_T q]
    have q2 : (iv s >>> (iv k &&& iv 31)) &&& iv 1 = iv 1 := q
    simp (disch := first | decide | omega | (simp (disch := first | decide | omega) only [sv_s, sv_o, ur_s, ur_e, ur_o]; omega)) only [↓reduceIte, iv_add, iv_sub, iv_mul, iv_neg, iv_ltT, iv_ltF, iv_leT, iv_leF, iv_eqT, iv_eqF, iv_div, iv_mod, ↓bnI_s, ↓bnV_s, ↓bnJ_s, ↓bnR_s, rt_e, rt_0, rt_bz, sv_s, sv_o, ur_s, ur_e, ur_o, bz_T, bz_F, nat_eqF, Nat.reduceAdd, ↓q_M_has, il_0, il_1, il_31, q2]
  · rw [bz_F q]
    have q2 : ((iv s >>> (iv k &&& iv 31)) &&& iv 1 = iv 1) = False := eq_false q
    simp (disch := first | decide | omega | (simp (disch := first | decide | omega) only [sv_s, sv_o, ur_s, ur_e, ur_o]; omega)) only [↓reduceIte, iv_add, iv_sub, iv_mul, iv_neg, iv_ltT, iv_ltF, iv_leT, iv_leF, iv_eqT, iv_eqF, iv_div, iv_mod, ↓bnI_s, ↓bnV_s, ↓bnJ_s, ↓bnR_s, rt_e, rt_0, rt_bz, sv_s, sv_o, ur_s, ur_e, ur_o, bz_T, bz_F, nat_eqF, Nat.reduceAdd, ↓q_M_has, il_0, il_1, il_31, q2]
theorem y_M_isStrapped (F : Fix z) {k : Int} : cA m_M_isStrapped [.ref 435, .int (iv k)] (em V J z) = some (.int (iv (bz (sb (V 436 10) k))), em V J z) := by
  have e := bz_01 (sb (V 436 10) k)
  simp (disch := first | decide | omega | (simp (disch := first | decide | omega) only [sv_s, sv_o, ur_s, ur_e, ur_o]; omega)) only [↓reduceIte, iv_add, iv_sub, iv_mul, iv_neg, iv_ltT, iv_ltF, iv_leT, iv_leF, iv_eqT, iv_eqF, iv_div, iv_mod, ↓bnI_s, ↓bnV_s, ↓bnJ_s, ↓bnR_s, rt_e, rt_0, rt_bz, sv_s, sv_o, ur_s, ur_e, ur_o, bz_T, bz_F, nat_eqF, Nat.reduceAdd, ↓q_M_isStrapped, ↓gR_435_0 F, ↓lI_436 F, ↓lI_437 F, ↓lI_438 F, ↓lI_439 F, ↓lI_440 F, ↓lI_441 F, ↓lI_443 F, ↓lI_444 F, ↓lI_445 F, ↓lI_446 F, ↓lI_447 F, ↓lI_448 F, ↓lI_449 F, ↓lI_450 F, ↓gd_435 F, il_0, il_1, il_10, il_11, il_27, y_M_has]
end
