/-! a TEXT: what class and model have of it, and what its laws say -/
def CLR (u a b s v w : Int) : Prop := (u = 0 ∧ s = 0) ∨ (u = 1 ∧ s = 1) ∨ (u = 2 ∧ s = 2 ∧ v = a ∧ w = b ∧ (0 ≤ a ∧ a ≤ 9) ∧ (0 ≤ b ∧ b ≤ 99)) ∨ (u = 4 ∧ s = 3 ∧ v = a ∧ (0 ≤ a ∧ a ≤ 5)) ∨ (u = 5 ∧ s = 4 ∧ v = a ∧ w = b ∧ (0 ≤ a ∧ a ≤ 5) ∧ (1 ≤ b ∧ b ≤ 99)) ∨ (u = 7 ∧ s = 5 ∧ v = a ∧ (0 ≤ a ∧ a ≤ 5)) ∨ (u = 8 ∧ s = 6 ∧ v = a ∧ w = b ∧ (0 ≤ a ∧ a ≤ 5) ∧ (0 ≤ b ∧ b ≤ 5)) ∨ (u = 10 ∧ s = 7 ∧ v = a ∧ (1 ≤ a ∧ a ≤ 60))
theorem CLR.rg {u a b s v w : Int} (h : CLR u a b s v w) : 0 ≤ s ∧ s ≤ 7 := by unfold CLR at h; omega
/-- one of the two laws of a text: there is none, or both say the same -/
def TXL (W : Int → Int) (D : Int → Int) (e i n s at' : Int) : Prop :=
  (at' = -1 ∧ ∀ k, 0 ≤ k → k < n → W (681 * i + 1 + 3 * k) ≠ s) ∨
  ∃ (k p wb we : Int) (M : (Int → Int) → Int → Int), (0 ≤ k ∧ k < n) ∧ W (681 * i + 1 + 3 * k) = s ∧ (∀ j, 0 ≤ j → j < k → W (681 * i + 1 + 3 * j) ≠ s) ∧ CE D at' p M ∧ (p < e ∧ D p = 35) ∧ W (681 * i + 1 + 3 * k + 1) = wb ∧ W (681 * i + 1 + 3 * k + 2) = we ∧ we ≤ 304 ∧ ME (fun j => W (681 * i + 73 + j)) wb we M ∧ MB M
def TXR (V : Vm) (z : Zz) (q : Nat) (i : Int) : Prop := ∃ (dc dk : Nat) (n e : Int), ((451 ≤ q ∧ q < z.2.2.1) ∧ z.2.1 q = (25, 4) ∧ z.1 q 0 = dc ∧ z.1 q 1 = dk) ∧ ((451 ≤ dc ∧ dc < z.2.2.1) ∧ z.2.1 dc = (1, (3 * n).toNat)) ∧ ((451 ≤ dk ∧ dk < z.2.2.1) ∧ z.2.1 dk = (1, e.toNat)) ∧ (0 ≤ n ∧ n ≤ 24) ∧ (0 ≤ e ∧ e ≤ 300) ∧ V 438 (681 * i) = n ∧ (∀ k, 0 ≤ k → k < n → CLR (V dc (3 * k)) (V dc (3 * k + 1)) (V dc (3 * k + 2)) (V 438 (681 * i + 1 + 3 * k)) (V 438 (681 * i + 1 + 3 * k + 1)) (V 438 (681 * i + 1 + 3 * k + 2))) ∧ TXL (V 438) (V dk) e i n 0 (V q 2) ∧ TXL (V 438) (V dk) e i n 1 (V q 3)
theorem TXR_ok : TXok TXR := by
  intro V V' z q i h8 ho h
  obtain ⟨dc, dk, n, e, h1, h2, h3, h4, h5, h6, h7, h9, h10⟩ := h
  have eq := ho q (by omega)
  have ec := ho dc (by omega)
  have ek := ho dk (by omega)
  refine ⟨dc, dk, n, e, h1, h2, h3, h4, h5, ?_, ?_, ?_, ?_⟩
  · rw [h8]; exact h6
  · rw [h8, ec]; exact h7
  · rw [h8, ek, eq]; exact h9
  · rw [h8, ek, eq]; exact h10
theorem TXR_z : TXz TXR := by
  intro V z z' q i h8 ho h
  obtain ⟨dc, dk, n, e, h1, h2, h3, h4, h5, h6, h7, h9, h10⟩ := h
  refine ⟨dc, dk, n, e, ?_, ?_, ?_, h4, h5, h6, h7, h9, h10⟩
  · rw [h8, ho q (by omega) (by omega)]; exact h1
  · rw [h8]; exact h2
  · rw [h8]; exact h3
theorem MEa.cong {mc mc' : Int → Int} {s e : Int} {M : (Int → Int) → Int → Int} (h : ME mc s e M) (q : mc' = mc) : ME mc' s e M := by rw [q]; exact h
/-- the slot of a text alone is of weight -/
theorem TXL_m {W W' D : Int → Int} {e i n s a : Int} (hn : n ≤ 24) (c : ∀ j, 681 * i ≤ j → j < 681 * i + 681 → W' j = W j) (h : TXL W D e i n s a) : TXL W' D e i n s a := by
  rcases h with ⟨h1, h2⟩ | ⟨k, p, wb, we, M, h1, h2, h3, h4, h5, h6, h7, h8, h9, h10⟩
  · exact Or.inl ⟨h1, fun k k0 k1 => by rw [c _ (by omega) (by omega)]; exact h2 k k0 k1⟩
  · refine Or.inr ⟨k, p, wb, we, M, h1, (c _ (by omega) (by omega)).trans h2, fun j j0 j1 => by rw [c _ (by omega) (by omega)]; exact h3 j j0 j1, h4, h5, (c _ (by omega) (by omega)).trans h6, (c _ (by omega) (by omega)).trans h7, h8, ?_, h10⟩
    have h0 := h9.1
    exact h9.ext (fun j j0 j1 => c _ (by omega) (by omega))
theorem TXR_m {V V' : Vm} {z z' : Zz} {q : Nat} {i : Int} (c : ∀ j, 681 * i ≤ j → j < 681 * i + 681 → V' 438 j = V 438 j) (o : ∀ a, 450 < a → a < z.2.2.1 → V' a = V a) (so : ∀ a, a < z.2.2.1 → z'.2.1 a = z.2.1 a) (ro : ∀ a, 450 < a → a < z.2.2.1 → z'.1 a = z.1 a) (le : z.2.2.1 ≤ z'.2.2.1) (h : TXR V z q i) : TXR V' z' q i := by
  obtain ⟨dc, dk, n, e, h1, h2, h3, h4, h5, h6, h7, h9, h10⟩ := h
  have eq := o q (by omega) (by omega)
  have ec := o dc (by omega) (by omega)
  have ek := o dk (by omega) (by omega)
  refine ⟨dc, dk, n, e, ?_, ?_, ?_, h4, h5, (c _ (by omega) (by omega)).trans h6, fun k k0 k1 => ?_, ?_, ?_⟩
  · rw [so q (by omega), ro q (by omega) (by omega)]
    exact ⟨by omega, h1.2⟩
  · rw [so dc (by omega)]
    exact ⟨by omega, h2.2⟩
  · rw [so dk (by omega)]
    exact ⟨by omega, h3.2⟩
  · rw [ec, c _ (by omega) (by omega), c _ (by omega) (by omega), c _ (by omega) (by omega)]
    exact h7 k k0 k1
  · rw [ek, eq]; exact TXL_m h4.2 c h9
  · rw [ek, eq]; exact TXL_m h4.2 c h10
theorem y_M_held {x lo hi : Int} {h : Mem} (b : Bd x) (r : 0 ≤ lo ∧ lo ≤ hi ∧ hi ≤ 1000) : cA m_M_held [.long (jv x), .int (iv lo), .int (iv hi)] h = some (.int (iv (max lo (min hi x))), h) := by
  unfold Bd at b
  by_cases h1 : x < lo
  · have e : max lo (min hi x) = lo := by omega
    rw [e]
    simp (disch := first | decide | omega | (simp (disch := first | decide | omega) only [sv_s, sv_o, ur_s, ur_e, ur_o]; omega)) only [↓reduceIte, iv_add, iv_sub, iv_mul, iv_neg, iv_ltT, iv_ltF, iv_leT, iv_leF, iv_eqT, iv_eqF, iv_div, iv_mod, ↓bnI_s, ↓bnV_s, ↓bnJ_s, ↓bnR_s, rt_e, rt_0, rt_bz, sv_s, sv_o, ur_s, ur_e, ur_o, bz_T, bz_F, nat_eqF, Nat.reduceAdd, ↓q_M_held, il_0, il_1, iv_long, jc_lt (a := x) (b := lo)]
  · by_cases h2 : hi < x
    · have e : max lo (min hi x) = hi := by omega
      rw [e]
      by_cases h3 : x = lo
      · exact absurd h3 (by omega)
      · simp (disch := first | decide | omega | (simp (disch := first | decide | omega) only [sv_s, sv_o, ur_s, ur_e, ur_o]; omega)) only [↓reduceIte, iv_add, iv_sub, iv_mul, iv_neg, iv_ltT, iv_ltF, iv_leT, iv_leF, iv_eqT, iv_eqF, iv_div, iv_mod, ↓bnI_s, ↓bnV_s, ↓bnJ_s, ↓bnR_s, rt_e, rt_0, rt_bz, sv_s, sv_o, ur_s, ur_e, ur_o, bz_T, bz_F, nat_eqF, Nat.reduceAdd, ↓q_M_held, il_0, il_1, iv_long, jc_gt (a := x) (b := lo), jc_gt (a := x) (b := hi)]
    · have e : max lo (min hi x) = x := by omega
      rw [e]
      have c1 : lg_cmp (jv x) (jv lo) = iv (if x = lo then 0 else 1) := by
        by_cases h3 : x = lo
        · rw [if_pos h3]; exact jc_eq h3
        · rw [if_neg h3]; exact jc_gt (by omega)
      have c2 : lg_cmp (jv x) (jv hi) = iv (if x = hi then 0 else -1) := by
        by_cases h3 : x = hi
        · rw [if_pos h3]; exact jc_eq h3
        · rw [if_neg h3]; exact jc_lt (by omega)
      have l1 : (iv (if x = lo then 0 else 1) < iv 0) = False := by
        by_cases h3 : x = lo
        · rw [if_pos h3]; exact iv_ltF (by omega)
        · rw [if_neg h3]; exact iv_ltF (by omega)
      have l2 : (iv 0 < iv (if x = hi then 0 else -1)) = False := by
        by_cases h3 : x = hi
        · rw [if_pos h3]; exact iv_ltF (by omega)
        · rw [if_neg h3]; exact iv_ltF (by omega)
      simp (disch := first | decide | omega | (simp (disch := first | decide | omega) only [sv_s, sv_o, ur_s, ur_e, ur_o]; omega)) only [↓reduceIte, iv_add, iv_sub, iv_mul, iv_neg, iv_ltT, iv_ltF, iv_leT, iv_leF, iv_eqT, iv_eqF, iv_div, iv_mod, ↓bnI_s, ↓bnV_s, ↓bnJ_s, ↓bnR_s, rt_e, rt_0, rt_bz, sv_s, sv_o, ur_s, ur_e, ur_o, bz_T, bz_F, nat_eqF, Nat.reduceAdd, ↓q_M_held, il_0, il_1, iv_long, c1, c2, l1, l2, jv_int]
theorem ns_ {a : Nat} {j : Int} (s : scr a j = false ∨ a = 444) : a ≠ 441 ∧ a ≠ 443 := by
  refine ⟨fun x => ?_, fun x => ?_⟩
  · rcases s with s | s
    · rw [x, scr_T (by omega)] at s
      exact absurd s (by decide)
    · omega
  · rcases s with s | s
    · rw [x, scr_T (by omega)] at s
      exact absurd s (by decide)
    · omega
theorem tI2 {V J : Vm} {z : Zz} {q : Nat} (s : z.2.1 q = (25, 4)) {f : Int32 → Rs} : gfI (em V J z) 9 2 q f = f (iv (V q 2)) := gfI_e s
theorem tI3 {V J : Vm} {z : Zz} {q : Nat} (s : z.2.1 q = (25, 4)) {f : Int32 → Rs} : gfI (em V J z) 9 3 q f = f (iv (V q 3)) := gfI_e s
theorem tR0 {V J : Vm} {z : Zz} {q : Nat} (s : z.2.1 q = (25, 4)) {f : Nat → Rs} : gfR (em V J z) 9 0 q f = f (z.1 q 0) := gfR_e s
theorem tR1 {V J : Vm} {z : Zz} {q : Nat} (s : z.2.1 q = (25, 4)) {f : Nat → Rs} : gfR (em V J z) 9 1 q f = f (z.1 q 1) := gfR_e s
section
variable {A : Int → Int} {V V0 U J K : Vm} {z : Zz} {t q dk n : Nat} {i k a p : Int} {M : (Int → Int) → Int → Int}
theorem y_X_reaches0 (F : Fix z) (T : Tab z t) (h : Kn V t A) (hk : 0 ≤ k ∧ k < A 0) (sq : z.2.1 q = (25, 4)) (q0 : 451 ≤ q) (h2 : V q 2 = -1) : cA m_Asker_reachesOf [.ref 417, .ref q, .ref t, .int (iv k)] (em V J z) = some (.int (iv (A (23 + k))), em V J z) := by
  have n2 := h.2.1
  have t0 := (h.2.2.1 k hk.1 hk.2).1
  simp (disch := first | decide | omega | (simp (disch := first | decide | omega) only [sv_s, sv_o, ur_s, ur_e, ur_o]; omega)) only [↓reduceIte, iv_add, iv_sub, iv_mul, iv_neg, iv_ltT, iv_ltF, iv_leT, iv_leF, iv_eqT, iv_eqF, iv_div, iv_mod, ↓bnI_s, ↓bnV_s, ↓bnJ_s, ↓bnR_s, rt_e, rt_0, rt_bz, sv_s, sv_o, ur_s, ur_e, ur_o, bz_T, bz_F, nat_eqF, Nat.reduceAdd, ↓q_Asker_reachesOf, ↓rT_0 T, ↓gd_417 F, il_0, il_1, il_2, il_7, il_9, il_10, il_16, ↓tI2 sq, ↓tI3 sq, h2, y_get T.s1, rd_in, t0]
theorem y_X_bears0 (F : Fix z) (sq : z.2.1 q = (25, 4)) (q0 : 451 ≤ q) (h2 : V q 3 = -1) : cA m_Asker_bearsOf [.ref 417, .ref q, .ref t, .int (iv k)] (em V J z) = some (.int (iv 5), em V J z) := by
  simp (disch := first | decide | omega | (simp (disch := first | decide | omega) only [sv_s, sv_o, ur_s, ur_e, ur_o]; omega)) only [↓reduceIte, iv_add, iv_sub, iv_mul, iv_neg, iv_ltT, iv_ltF, iv_leT, iv_leF, iv_eqT, iv_eqF, iv_div, iv_mod, ↓bnI_s, ↓bnV_s, ↓bnJ_s, ↓bnR_s, rt_e, rt_0, rt_bz, sv_s, sv_o, ur_s, ur_e, ur_o, bz_T, bz_F, nat_eqF, Nat.reduceAdd, ↓q_Asker_bearsOf, ↓gd_417 F, il_0, il_1, il_3, il_5, il_9, il_16, il_99, ↓tI2 sq, ↓tI3 sq, h2]
theorem y_X_reaches1 (F : Fix z) (T : Tab z t) (ht : t + 6 ≤ 418) (h : Kn V t A) (hk : 0 ≤ k ∧ k < A 0) (sq : z.2.1 q = (25, 4)) (q0 : 451 ≤ q) (r1 : z.1 q 1 = dk) (sd : z.2.1 dk = (1, n)) (hn : n ≤ 300) (hd : 451 ≤ dk) (h2 : V q 2 = a) (C : CE (V dk) a p M) (hp : p < n) (h35 : V dk p = 35) (B : MB M) : ∃ V', cA m_Asker_reachesOf [.ref 417, .ref q, .ref t, .int (iv k)] (em V J z) = some (.int (iv (max 0 (min 10 (M A k)))), em V' J z) ∧ ∀ b, b ≠ 418 → V' b = V b := by
  obtain ⟨V', e1, e2⟩ := C.run (J := J) F T ht h hk sd hn hd (fun _ _ _ => rfl) hp rfl h35
  have b := B V t A k h hk
  unfold Bd at b
  have a0 := C.1
  have m1 := y_min (a := 10) (b := M A k) (h := em V' J z) (by omega)
  have m2 := y_max (a := 0) (b := min 10 (M A k)) (h := em V' J z) (by omega)
  refine ⟨V', ?_, e2⟩
  simp (disch := first | decide | omega | (simp (disch := first | decide | omega) only [sv_s, sv_o, ur_s, ur_e, ur_o]; omega)) only [↓reduceIte, iv_add, iv_sub, iv_mul, iv_neg, iv_ltT, iv_ltF, iv_leT, iv_leF, iv_eqT, iv_eqF, iv_div, iv_mod, ↓bnI_s, ↓bnV_s, ↓bnJ_s, ↓bnR_s, rt_e, rt_0, rt_bz, sv_s, sv_o, ur_s, ur_e, ur_o, bz_T, bz_F, nat_eqF, Nat.reduceAdd, ↓q_Asker_reachesOf, ↓rT_0 T, ↓gd_417 F, il_0, il_1, il_2, il_7, il_9, il_10, il_16, ↓tI2 sq, ↓tI3 sq, ↓tR1 sq, r1, h2, e1, m1, m2]
theorem y_X_bears1 (F : Fix z) (T : Tab z t) (ht : t + 6 ≤ 418) (h : Kn V t A) (hk : 0 ≤ k ∧ k < A 0) (sq : z.2.1 q = (25, 4)) (q0 : 451 ≤ q) (r1 : z.1 q 1 = dk) (sd : z.2.1 dk = (1, n)) (hn : n ≤ 300) (hd : 451 ≤ dk) (h2 : V q 3 = a) (C : CE (V dk) a p M) (hp : p < n) (h35 : V dk p = 35) (B : MB M) : ∃ V', cA m_Asker_bearsOf [.ref 417, .ref q, .ref t, .int (iv k)] (em V J z) = some (.int (iv (max 0 (min 99 (M A k)))), em V' J z) ∧ ∀ b, b ≠ 418 → V' b = V b := by
  obtain ⟨V', e1, e2⟩ := C.run (J := J) F T ht h hk sd hn hd (fun _ _ _ => rfl) hp rfl h35
  have b := B V t A k h hk
  unfold Bd at b
  have a0 := C.1
  have m1 := y_min (a := 99) (b := M A k) (h := em V' J z) (by omega)
  have m2 := y_max (a := 0) (b := min 99 (M A k)) (h := em V' J z) (by omega)
  refine ⟨V', ?_, e2⟩
  simp (disch := first | decide | omega | (simp (disch := first | decide | omega) only [sv_s, sv_o, ur_s, ur_e, ur_o]; omega)) only [↓reduceIte, iv_add, iv_sub, iv_mul, iv_neg, iv_ltT, iv_ltF, iv_leT, iv_leF, iv_eqT, iv_eqF, iv_div, iv_mod, ↓bnI_s, ↓bnV_s, ↓bnJ_s, ↓bnR_s, rt_e, rt_0, rt_bz, sv_s, sv_o, ur_s, ur_e, ur_o, bz_T, bz_F, nat_eqF, Nat.reduceAdd, ↓q_Asker_bearsOf, ↓gd_417 F, il_0, il_1, il_3, il_5, il_9, il_16, il_99, ↓tI2 sq, ↓tI3 sq, ↓tR1 sq, r1, h2, e1, m1, m2]
theorem y_M_name (F : Fix z) (h : Kn V t A) (R : Ro U A) (hk : 0 ≤ k ∧ k < A 0) : ∃ U', cA m_M_name [.ref 435, .int (iv k)] (em U K z) = some (.null, em U' K z) ∧ (∀ a, a ≠ 441 → U' a = U a) ∧ ∀ m, 0 ≤ m → m < 7 → U' 441 m = nmV A k (cnm m) := by
  have n2 := h.2.1
  have p := h.2.2.2.ps n2
  have u0 : U 436 0 = A 0 := R 0 (by omega)
  have u7 : U 436 7 = A 7 := R 7 (by omega)
  have u9 : U 436 9 = A 9 := R 9 (by omega)
  have ua : U 436 (23 + k) = A (23 + k) := R _ (by omega)
  have ub : U 436 (11 + k) = A (11 + k) := R _ (by omega)
  have uc : U 436 (17 + k) = A (17 + k) := R _ (by omega)
  obtain ⟨W, hW⟩ : ∃ W, W = sv (sv (sv (sv (sv U 441 0 (A 7)) 441 1 k) 441 2 (A (23 + k))) 441 3 (A (11 + k))) 441 4 (A (17 + k)) := ⟨_, rfl⟩
  have w6 : W 436 = U 436 := by rw [hW]; simp (disch := first | decide | omega | (simp (disch := first | decide | omega) only [sv_s, sv_o, ur_s, ur_e, ur_o]; omega)) only [↓reduceIte, iv_add, iv_sub, iv_mul, iv_neg, iv_ltT, iv_ltF, iv_leT, iv_leF, iv_eqT, iv_eqF, iv_div, iv_mod, ↓bnI_s, ↓bnV_s, ↓bnJ_s, ↓bnR_s, rt_e, rt_0, rt_bz, sv_s, sv_o, ur_s, ur_e, ur_o, bz_T, bz_F, nat_eqF, Nat.reduceAdd]
  have f1 := y_furtherA (V := W) (J := K) F p (by rw [w6]; exact u0) (fun j j0 j1 => by rw [w6]; exact R j (by omega)) hk (b := 1) (by omega)
  have f2 := y_furtherA (V := W) (J := K) F p (by rw [w6]; exact u0) (fun j j0 j1 => by rw [w6]; exact R j (by omega)) hk (b := A 0 - 1) (by omega)
  have g1 := p.fr_ hk (b := 1) (by omega)
  have g2 := p.fr_ hk (b := A 0 - 1) (by omega)
  have v1 : U 436 (11 + fur A k 1) = A (11 + fur A k 1) := R _ (by omega)
  have v2 : U 436 (11 + fur A k (A 0 - 1)) = A (11 + fur A k (A 0 - 1)) := R _ (by omega)
  rw [hW] at f1 f2
  refine ⟨sv (sv (sv (sv (sv (sv (sv U 441 0 (A 7)) 441 1 k) 441 2 (A (23 + k))) 441 3 (A (11 + k))) 441 4 (A (17 + k))) 441 5 (A (11 + fur A k 1) + A (11 + fur A k (A 0 - 1)))) 441 6 (A 9), ?_, fun a ha => by simp (disch := first | decide | omega | (simp (disch := first | decide | omega) only [sv_s, sv_o, ur_s, ur_e, ur_o]; omega)) only [↓reduceIte, iv_add, iv_sub, iv_mul, iv_neg, iv_ltT, iv_ltF, iv_leT, iv_leF, iv_eqT, iv_eqF, iv_div, iv_mod, ↓bnI_s, ↓bnV_s, ↓bnJ_s, ↓bnR_s, rt_e, rt_0, rt_bz, sv_s, sv_o, ur_s, ur_e, ur_o, bz_T, bz_F, nat_eqF, Nat.reduceAdd], fun m m0 m1 => ?_⟩
  · simp (disch := first | decide | omega | (simp (disch := first | decide | omega) only [sv_s, sv_o, ur_s, ur_e, ur_o]; omega)) only [↓reduceIte, iv_add, iv_sub, iv_mul, iv_neg, iv_ltT, iv_ltF, iv_leT, iv_leF, iv_eqT, iv_eqF, iv_div, iv_mod, ↓bnI_s, ↓bnV_s, ↓bnJ_s, ↓bnR_s, rt_e, rt_0, rt_bz, sv_s, sv_o, ur_s, ur_e, ur_o, bz_T, bz_F, nat_eqF, Nat.reduceAdd, ↓q_M_name, ↓gR_435_20 F, ↓gR_435_0 F, ↓lI_436 F, ↓lI_437 F, ↓lI_438 F, ↓lI_439 F, ↓lI_440 F, ↓lI_441 F, ↓lI_443 F, ↓lI_444 F, ↓lI_445 F, ↓lI_446 F, ↓lI_447 F, ↓lI_448 F, ↓lI_449 F, ↓lI_450 F, ↓sI_436 F, ↓sI_437 F, ↓sI_438 F, ↓sI_439 F, ↓sI_440 F, ↓sI_441 F, ↓sI_443 F, ↓sI_444 F, ↓sI_445 F, ↓sI_446 F, ↓sI_447 F, ↓sI_448 F, ↓sI_449 F, ↓sI_450 F, ↓gd_435 F, il_0, il_1, il_2, il_3, il_4, il_5, il_6, il_7, il_9, il_11, il_17, il_20, il_23, il_27, u0, u7, u9, ua, ub, uc, f1, f2, v1, v2]
  · have m7 : m = 0 ∨ m = 1 ∨ m = 2 ∨ m = 3 ∨ m = 4 ∨ m = 5 ∨ m = 6 := by omega
    clear m0 m1
    rcases m7 with rfl | rfl | rfl | rfl | rfl | rfl | rfl
    all_goals (simp (disch := first | decide | omega | (simp (disch := first | decide | omega) only [sv_s, sv_o, ur_s, ur_e, ur_o]; omega)) only [↓reduceIte, iv_add, iv_sub, iv_mul, iv_neg, iv_ltT, iv_ltF, iv_leT, iv_leF, iv_eqT, iv_eqF, iv_div, iv_mod, ↓bnI_s, ↓bnV_s, ↓bnJ_s, ↓bnR_s, rt_e, rt_0, rt_bz, sv_s, sv_o, ur_s, ur_e, ur_o, bz_T, bz_F, nat_eqF, Nat.reduceAdd]; rfl)
/-- the sum of a clause of a text -/
theorem y_M_summedUp (F : Fix z) (h : Kn V t A) (hk : 0 ≤ k ∧ k < A 0) (R : Ro U A) (nm : ∀ m, 0 ≤ m → m < 7 → U 441 m = nmV A k (cnm m)) (hi : 0 ≤ i ∧ i ≤ 3) {c wb we : Int} (hc : 0 ≤ c ∧ c < 24) (h1 : U 438 (681 * i + 1 + 3 * c + 1) = wb) (h2 : U 438 (681 * i + 1 + 3 * c + 2) = we) (h3 : we ≤ 304) (m : ME (fun j => U 438 (681 * i + 73 + j)) wb we M) : ∃ U' K', cA m_M_summedUp [.ref 435, .int (iv i), .int (iv c)] (em U K z) = some (.long (jv (M A k)), em U' K' z) ∧ ∀ a, a ≠ 443 → U' a = U a := by
  have m0 := m.1
  have mx : Mx U A k (681 * i + 1 + 3 * c) (681 * i + 73) we we := ⟨R, nm, by omega, h2, by omega, by omega⟩
  obtain ⟨U', K', e1, e2, e3, e4, e5⟩ := m.2 z U K V t A k (681 * i + 1 + 3 * c) (681 * i + 73) we 0 0 F h hk mx (fun j _ _ => rfl) (by omega) (by omega)
  have en := m_end (K := K') (b := 681 * i + 73) (n := 0 + 1) (r := 0) F (x := 681 * i + 1 + 3 * c) (U := U') (s := we) (e := we) (by omega) (by rw [e2 438 (by decide)]; exact h2) (by omega) rfl
  refine ⟨U', K', ?_, e2⟩
  rw [← e3, ← en, ← e1]
  unfold h38
  simp (disch := first | decide | omega | (simp (disch := first | decide | omega) only [sv_s, sv_o, ur_s, ur_e, ur_o]; omega)) only [↓reduceIte, iv_add, iv_sub, iv_mul, iv_neg, iv_ltT, iv_ltF, iv_leT, iv_leF, iv_eqT, iv_eqF, iv_div, iv_mod, ↓bnI_s, ↓bnV_s, ↓bnJ_s, ↓bnR_s, rt_e, rt_0, rt_bz, sv_s, sv_o, ur_s, ur_e, ur_o, bz_T, bz_F, nat_eqF, Nat.reduceAdd, ↓q_M_summedUp, ↓gR_435_2 F, ↓lI_436 F, ↓lI_437 F, ↓lI_438 F, ↓lI_439 F, ↓lI_440 F, ↓lI_441 F, ↓lI_443 F, ↓lI_444 F, ↓lI_445 F, ↓lI_446 F, ↓lI_447 F, ↓lI_448 F, ↓lI_449 F, ↓lI_450 F, ↓gd_435 F, il_0, il_1, il_2, il_3, il_11, il_27, il_38, il_73, il_681, h1]
theorem y_says_l (F : Fix z) (hi : 0 ≤ i ∧ i ≤ 3) {s w top c N : Int} (hn : U 438 (681 * i) = N) (n2 : N ≤ 24) (rg : ∀ l, 0 ≤ l → l < N → 0 ≤ U 438 (681 * i + 1 + 3 * l) ∧ U 438 (681 * i + 1 + 3 * l) ≤ 7) (s0 : 0 ≤ s ∧ s ≤ 7) (hc : c ≤ N) (ne : ∀ l, 0 ≤ l → l < c → U 438 (681 * i + 1 + 3 * l) ≠ s) : ∀ (m : Nat) (j : Int), 0 ≤ j → j + m = c → rX m_M_says m_M_says 3 [.ref 435, .int (iv i), .int (iv s), .int (iv w), .int (iv top), .int (iv j)] [] (em U K z) = rX m_M_says m_M_says 3 [.ref 435, .int (iv i), .int (iv s), .int (iv w), .int (iv top), .int (iv c)] [] (em U K z) := by
  intro m
  induction m with
  | zero =>
    intro j j0 hj
    rw [show j = c by omega]
  | succ m ih =>
    intro j j0 hj
    rw [← ih (j + 1) (by omega) (by omega)]
    have r := rg j j0 (by omega)
    have d := ne j j0 (by omega)
    generalize hx : U 438 (681 * i + 1 + 3 * j) = x at *
    have dd' : x < s ∨ s < x := by omega
    clear d
    (rw [q_M_says_3]; simp (disch := first | decide | omega | (simp (disch := first | decide | omega) only [sv_s, sv_o, ur_s, ur_e, ur_o]; omega)) only [↓reduceIte, iv_add, iv_sub, iv_mul, iv_neg, iv_ltT, iv_ltF, iv_leT, iv_leF, iv_eqT, iv_eqF, iv_div, iv_mod, ↓bnI_s, ↓bnV_s, ↓bnJ_s, ↓bnR_s, rt_e, rt_0, rt_bz, sv_s, sv_o, ur_s, ur_e, ur_o, bz_T, bz_F, nat_eqF, Nat.reduceAdd, ↓gR_435_2 F, ↓lI_436 F, ↓lI_437 F, ↓lI_438 F, ↓lI_439 F, ↓lI_440 F, ↓lI_441 F, ↓lI_443 F, ↓lI_444 F, ↓lI_445 F, ↓lI_446 F, ↓lI_447 F, ↓lI_448 F, ↓lI_449 F, ↓lI_450 F, il_0, il_1, il_2, il_3, il_11, il_681, hn, hx])
theorem y_says (F : Fix z) (h : Kn V t A) (hk : 0 ≤ k ∧ k < A 0) (R : Ro U A) (nm : ∀ m, 0 ≤ m → m < 7 → U 441 m = nmV A k (cnm m)) (hi : 0 ≤ i ∧ i ≤ 3) {s w top N e : Int} {D : Int → Int} (s0 : 0 ≤ s ∧ s ≤ 7) (ht : 0 ≤ top ∧ top ≤ 1000) (hn : U 438 (681 * i) = N) (n2 : 0 ≤ N ∧ N ≤ 24) (rg : ∀ l, 0 ≤ l → l < N → 0 ≤ U 438 (681 * i + 1 + 3 * l) ∧ U 438 (681 * i + 1 + 3 * l) ≤ 7) {c wb we : Int} (hc : 0 ≤ c ∧ c < N) (hs : U 438 (681 * i + 1 + 3 * c) = s) (ne : ∀ l, 0 ≤ l → l < c → U 438 (681 * i + 1 + 3 * l) ≠ s) (h1 : U 438 (681 * i + 1 + 3 * c + 1) = wb) (h2 : U 438 (681 * i + 1 + 3 * c + 2) = we) (h3 : we ≤ 304) (m : ME (fun j => U 438 (681 * i + 73 + j)) wb we M) (B : MB M) : ∃ U' K', cA m_M_says [.ref 435, .int (iv i), .int (iv s), .int (iv w), .int (iv top)] (em U K z) = some (.int (iv (max 0 (min top (M A k)))), em U' K' z) ∧ ∀ a, a ≠ 443 → U' a = U a := by
  obtain ⟨U', K', e1, e2⟩ := y_M_summedUp (K := K) F h hk R nm hi (c := c) (by omega) h1 h2 h3 m
  have l := y_says_l (K := K) F hi (w := w) (top := top) hn n2.2 rg s0 (by omega) ne c.toNat 0 (by omega) (by omega)
  have hd := y_M_held (h := em U' K' z) (B V t A k h hk) (lo := 0) (hi := top) (by omega)
  refine ⟨U', K', ?_, e2⟩
  rw [q_M_says, gd_435 F, il_0, l]
  (rw [q_M_says_3]; simp (disch := first | decide | omega | (simp (disch := first | decide | omega) only [sv_s, sv_o, ur_s, ur_e, ur_o]; omega)) only [↓reduceIte, iv_add, iv_sub, iv_mul, iv_neg, iv_ltT, iv_ltF, iv_leT, iv_leF, iv_eqT, iv_eqF, iv_div, iv_mod, ↓bnI_s, ↓bnV_s, ↓bnJ_s, ↓bnR_s, rt_e, rt_0, rt_bz, sv_s, sv_o, ur_s, ur_e, ur_o, bz_T, bz_F, nat_eqF, Nat.reduceAdd, ↓gR_435_2 F, ↓lI_436 F, ↓lI_437 F, ↓lI_438 F, ↓lI_439 F, ↓lI_440 F, ↓lI_441 F, ↓lI_443 F, ↓lI_444 F, ↓lI_445 F, ↓lI_446 F, ↓lI_447 F, ↓lI_448 F, ↓lI_449 F, ↓lI_450 F, il_0, il_1, il_2, il_3, il_11, il_681, hn, hs, e1, hd])
theorem y_says0 (F : Fix z) (hi : 0 ≤ i ∧ i ≤ 3) {s w top N : Int} (s0 : 0 ≤ s ∧ s ≤ 7) (hn : U 438 (681 * i) = N) (n2 : 0 ≤ N ∧ N ≤ 24) (rg : ∀ l, 0 ≤ l → l < N → 0 ≤ U 438 (681 * i + 1 + 3 * l) ∧ U 438 (681 * i + 1 + 3 * l) ≤ 7) (ne : ∀ l, 0 ≤ l → l < N → U 438 (681 * i + 1 + 3 * l) ≠ s) : cA m_M_says [.ref 435, .int (iv i), .int (iv s), .int (iv w), .int (iv top)] (em U K z) = some (.int (iv w), em U K z) := by
  have l := y_says_l (K := K) F hi (w := w) (top := top) hn n2.2 rg s0 (Int.le_refl _) ne N.toNat 0 (by omega) (by omega)
  rw [q_M_says, gd_435 F, il_0, l]
  (rw [q_M_says_3]; simp (disch := first | decide | omega | (simp (disch := first | decide | omega) only [sv_s, sv_o, ur_s, ur_e, ur_o]; omega)) only [↓reduceIte, iv_add, iv_sub, iv_mul, iv_neg, iv_ltT, iv_ltF, iv_leT, iv_leF, iv_eqT, iv_eqF, iv_div, iv_mod, ↓bnI_s, ↓bnV_s, ↓bnJ_s, ↓bnR_s, rt_e, rt_0, rt_bz, sv_s, sv_o, ur_s, ur_e, ur_o, bz_T, bz_F, nat_eqF, Nat.reduceAdd, ↓gR_435_2 F, ↓lI_436 F, ↓lI_437 F, ↓lI_438 F, ↓lI_439 F, ↓lI_440 F, ↓lI_441 F, ↓lI_443 F, ↓lI_444 F, ↓lI_445 F, ↓lI_446 F, ↓lI_447 F, ↓lI_448 F, ↓lI_449 F, ↓lI_450 F, il_0, il_1, il_2, il_3, il_11, il_681, hn])
/-- what a text's laws say -/
theorem Lw_of (F : Fix z) (h : TXR V0 z q i) (hi : 0 ≤ i ∧ i ≤ 3) : ∃ rv bv, Lw z V0 q i rv bv := by
  obtain ⟨dc, dk, n, e, ⟨⟨q0, _⟩, sq, r0, r1⟩, _, ⟨⟨k0, _⟩, sk⟩, hn, he, h6, h7, h9, h10⟩ := h
  have rg0 : ∀ l, 0 ≤ l → l < n → 0 ≤ V0 438 (681 * i + 1 + 3 * l) ∧ V0 438 (681 * i + 1 + 3 * l) ≤ 7 := fun l l0 l1 => (h7 l l0 l1).rg
  have key1 : ∃ rv : (Int → Int) → Int → Int, ∀ A k, (∃ V t, Kn V t A) → 0 ≤ k → k < A 0 → (0 ≤ rv A k ∧ rv A k ≤ 10) ∧
      (∀ V J t, (∀ a, 450 < a → V a = V0 a) → Tab z t → t + 6 ≤ 418 → Kn V t A → ∃ V', cA m_Asker_reachesOf [.ref 417, .ref q, .ref t, .int (iv k)] (em V J z) = some (.int (iv (rv A k)), em V' J z) ∧ ∀ a, a ≠ 418 → V' a = V a) ∧
      ∀ U K w B, RW w B U A → U 438 = V0 438 → ∃ U' K', cA m_M_reachesOf [.ref 435, .int (iv i), .int (iv k)] (em U K z) = some (.int (iv (rv A k)), em U' K' z) ∧ frM U U' ∧ U' 436 = U 436 ∧ U' 435 24 = U 435 24 := by
    rcases h9 with ⟨a1, a2⟩ | ⟨c, p, wb, we, M, a1, a2, a3, a4, a5, a6, a7, a8, a9, a10⟩
    · refine ⟨fun A k => A (23 + k), fun A k ⟨V, t, hK⟩ g0 g1 => ⟨?_, fun V J t o T ht hK => ⟨V, y_X_reaches0 F T hK ⟨g0, g1⟩ sq q0 (by rw [o q (by omega)]; exact a1), fun _ _ => rfl⟩, fun U K w B hU h8 => ?_⟩⟩
      · have tt := (hK.2.2.1 k g0 g1).2.1
        show 0 ≤ A (23 + k) ∧ A (23 + k) ≤ 10
        omega
      · obtain ⟨U1, e1, e2, e3⟩ := y_M_name (K := K) F hK (fun j hj => hU.1 j (Or.inr hj)) ⟨g0, g1⟩
        have h81 : U1 438 = V0 438 := (e2 438 (by decide)).trans h8
        have u6 : U1 436 (23 + k) = A (23 + k) := by rw [e2 436 (by decide)]; exact hU.1 _ (by have := hK.2.1; omega)
        have sy := y_says0 (U := U1) (K := K) F hi (s := 0) (w := A (23 + k)) (top := 10) (by omega) (by rw [h81]; exact h6) hn (fun l l0 l1 => by rw [h81]; exact rg0 l l0 l1) (fun l l0 l1 => by rw [h81]; exact a2 l l0 l1)
        refine ⟨U1, K, ?_, fun a j s _ => by rw [e2 a (ns_ s).1], e2 436 (by decide), by rw [e2 435 (by decide)]⟩
        have n2 := hK.2.1
        simp (disch := first | decide | omega | (simp (disch := first | decide | omega) only [sv_s, sv_o, ur_s, ur_e, ur_o]; omega)) only [↓reduceIte, iv_add, iv_sub, iv_mul, iv_neg, iv_ltT, iv_ltF, iv_leT, iv_leF, iv_eqT, iv_eqF, iv_div, iv_mod, ↓bnI_s, ↓bnV_s, ↓bnJ_s, ↓bnR_s, rt_e, rt_0, rt_bz, sv_s, sv_o, ur_s, ur_e, ur_o, bz_T, bz_F, nat_eqF, Nat.reduceAdd, ↓q_M_reachesOf, ↓gR_435_0 F, ↓lI_436 F, ↓lI_437 F, ↓lI_438 F, ↓lI_439 F, ↓lI_440 F, ↓lI_441 F, ↓lI_443 F, ↓lI_444 F, ↓lI_445 F, ↓lI_446 F, ↓lI_447 F, ↓lI_448 F, ↓lI_449 F, ↓lI_450 F, ↓gd_435 F, il_0, il_1, il_10, il_11, il_23, il_27, e1, u6, sy]
    · have sk' : z.2.1 dk = (1, e.toNat) := sk
      refine ⟨fun A k => max 0 (min 10 (M A k)), fun A k ⟨V, t, hK⟩ g0 g1 => ⟨by show 0 ≤ max 0 (min 10 (M A k)) ∧ max 0 (min 10 (M A k)) ≤ 10; omega, fun V J t o T ht hK => ?_, fun U K w B hU h8 => ?_⟩⟩
      · exact y_X_reaches1 (J := J) F T ht hK ⟨g0, g1⟩ sq q0 r1 sk (by omega) k0 (by rw [o q (by omega)]) (by rw [o dk (by omega)]; exact a4) (by omega) (by rw [o dk (by omega)]; exact a5.2) a10
      · obtain ⟨U1, e1, e2, e3⟩ := y_M_name (K := K) F hK (fun j hj => hU.1 j (Or.inr hj)) ⟨g0, g1⟩
        have h81 : U1 438 = V0 438 := (e2 438 (by decide)).trans h8
        have u6 : U1 436 (23 + k) = A (23 + k) := by rw [e2 436 (by decide)]; exact hU.1 _ (by have := hK.2.1; omega)
        obtain ⟨U2, K2, f1, f2⟩ := y_says (U := U1) (K := K) (D := V0 dk) (e := e) (wb := wb) (we := we) F hK ⟨g0, g1⟩ (fun j hj => by rw [e2 436 (by decide)]; exact hU.1 j (Or.inr hj)) e3 hi (s := 0) (w := A (23 + k)) (top := 10) (by omega) (by omega) (by rw [h81]; exact h6) hn (fun l l0 l1 => by rw [h81]; exact rg0 l l0 l1) a1 (by rw [h81]; exact a2) (fun l l0 l1 => by rw [h81]; exact a3 l l0 l1) (by rw [h81]; exact a6) (by rw [h81]; exact a7) a8 (by rw [h81]; exact a9) a10
        refine ⟨U2, K2, ?_, fun a j s _ => by rw [f2 a (ns_ s).2, e2 a (ns_ s).1], (f2 436 (by decide)).trans (e2 436 (by decide)), by rw [f2 435 (by decide), e2 435 (by decide)]⟩
        have n2 := hK.2.1
        simp (disch := first | decide | omega | (simp (disch := first | decide | omega) only [sv_s, sv_o, ur_s, ur_e, ur_o]; omega)) only [↓reduceIte, iv_add, iv_sub, iv_mul, iv_neg, iv_ltT, iv_ltF, iv_leT, iv_leF, iv_eqT, iv_eqF, iv_div, iv_mod, ↓bnI_s, ↓bnV_s, ↓bnJ_s, ↓bnR_s, rt_e, rt_0, rt_bz, sv_s, sv_o, ur_s, ur_e, ur_o, bz_T, bz_F, nat_eqF, Nat.reduceAdd, ↓q_M_reachesOf, ↓gR_435_0 F, ↓lI_436 F, ↓lI_437 F, ↓lI_438 F, ↓lI_439 F, ↓lI_440 F, ↓lI_441 F, ↓lI_443 F, ↓lI_444 F, ↓lI_445 F, ↓lI_446 F, ↓lI_447 F, ↓lI_448 F, ↓lI_449 F, ↓lI_450 F, ↓gd_435 F, il_0, il_1, il_10, il_11, il_23, il_27, e1, u6, f1]
  have key2 : ∃ bv : (Int → Int) → Int → Int, ∀ A k, (∃ V t, Kn V t A) → 0 ≤ k → k < A 0 → (0 ≤ bv A k ∧ bv A k ≤ 99) ∧
      (∀ V J t, (∀ a, 450 < a → V a = V0 a) → Tab z t → t + 6 ≤ 418 → Kn V t A → ∃ V', cA m_Asker_bearsOf [.ref 417, .ref q, .ref t, .int (iv k)] (em V J z) = some (.int (iv (bv A k)), em V' J z) ∧ ∀ a, a ≠ 418 → V' a = V a) ∧
      ∀ U K w B, RW w B U A → U 438 = V0 438 → A 2 = i → ∃ U' K', cA m_M_bearsOf [.ref 435, .int (iv k)] (em U K z) = some (.int (iv (bv A k)), em U' K' z) ∧ frM U U' ∧ U' 436 = U 436 ∧ U' 435 24 = U 435 24 := by
    rcases h10 with ⟨a1, a2⟩ | ⟨c, p, wb, we, M, a1, a2, a3, a4, a5, a6, a7, a8, a9, a10⟩
    · refine ⟨fun A k => 5, fun A k ⟨V, t, hK⟩ g0 g1 => ⟨by show (0 : Int) ≤ 5 ∧ (5 : Int) ≤ 99; omega, fun V J t o T ht hK => ⟨V, y_X_bears0 F sq q0 (by rw [o q (by omega)]; exact a1), fun _ _ => rfl⟩, fun U K w B hU h8 h2 => ?_⟩⟩
      obtain ⟨U1, e1, e2, e3⟩ := y_M_name (K := K) F hK (fun j hj => hU.1 j (Or.inr hj)) ⟨g0, g1⟩
      have h81 : U1 438 = V0 438 := (e2 438 (by decide)).trans h8
      have u6 : U1 436 2 = i := by rw [e2 436 (by decide)]; exact (hU.1 2 (by omega)).trans h2
      have sy := y_says0 (U := U1) (K := K) F hi (s := 1) (w := 5) (top := 99) (by omega) (by rw [h81]; exact h6) hn (fun l l0 l1 => by rw [h81]; exact rg0 l l0 l1) (fun l l0 l1 => by rw [h81]; exact a2 l l0 l1)
      refine ⟨U1, K, ?_, fun a j s _ => by rw [e2 a (ns_ s).1], e2 436 (by decide), by rw [e2 435 (by decide)]⟩
      simp (disch := first | decide | omega | (simp (disch := first | decide | omega) only [sv_s, sv_o, ur_s, ur_e, ur_o]; omega)) only [↓reduceIte, iv_add, iv_sub, iv_mul, iv_neg, iv_ltT, iv_ltF, iv_leT, iv_leF, iv_eqT, iv_eqF, iv_div, iv_mod, ↓bnI_s, ↓bnV_s, ↓bnJ_s, ↓bnR_s, rt_e, rt_0, rt_bz, sv_s, sv_o, ur_s, ur_e, ur_o, bz_T, bz_F, nat_eqF, Nat.reduceAdd, ↓q_M_bearsOf, ↓gR_435_0 F, ↓lI_436 F, ↓lI_437 F, ↓lI_438 F, ↓lI_439 F, ↓lI_440 F, ↓lI_441 F, ↓lI_443 F, ↓lI_444 F, ↓lI_445 F, ↓lI_446 F, ↓lI_447 F, ↓lI_448 F, ↓lI_449 F, ↓lI_450 F, ↓gd_435 F, il_0, il_1, il_2, il_5, il_11, il_27, il_99, e1, u6, sy]
    · refine ⟨fun A k => max 0 (min 99 (M A k)), fun A k ⟨V, t, hK⟩ g0 g1 => ⟨by show 0 ≤ max 0 (min 99 (M A k)) ∧ max 0 (min 99 (M A k)) ≤ 99; omega, fun V J t o T ht hK => ?_, fun U K w B hU h8 h2 => ?_⟩⟩
      · exact y_X_bears1 (J := J) F T ht hK ⟨g0, g1⟩ sq q0 r1 sk (by omega) k0 (by rw [o q (by omega)]) (by rw [o dk (by omega)]; exact a4) (by omega) (by rw [o dk (by omega)]; exact a5.2) a10
      · obtain ⟨U1, e1, e2, e3⟩ := y_M_name (K := K) F hK (fun j hj => hU.1 j (Or.inr hj)) ⟨g0, g1⟩
        have h81 : U1 438 = V0 438 := (e2 438 (by decide)).trans h8
        have u6 : U1 436 2 = i := by rw [e2 436 (by decide)]; exact (hU.1 2 (by omega)).trans h2
        obtain ⟨U2, K2, f1, f2⟩ := y_says (U := U1) (K := K) (D := V0 dk) (e := e) (wb := wb) (we := we) F hK ⟨g0, g1⟩ (fun j hj => by rw [e2 436 (by decide)]; exact hU.1 j (Or.inr hj)) e3 hi (s := 1) (w := 5) (top := 99) (by omega) (by omega) (by rw [h81]; exact h6) hn (fun l l0 l1 => by rw [h81]; exact rg0 l l0 l1) a1 (by rw [h81]; exact a2) (fun l l0 l1 => by rw [h81]; exact a3 l l0 l1) (by rw [h81]; exact a6) (by rw [h81]; exact a7) a8 (by rw [h81]; exact a9) a10
        refine ⟨U2, K2, ?_, fun a j s _ => by rw [f2 a (ns_ s).2, e2 a (ns_ s).1], (f2 436 (by decide)).trans (e2 436 (by decide)), by rw [f2 435 (by decide), e2 435 (by decide)]⟩
        simp (disch := first | decide | omega | (simp (disch := first | decide | omega) only [sv_s, sv_o, ur_s, ur_e, ur_o]; omega)) only [↓reduceIte, iv_add, iv_sub, iv_mul, iv_neg, iv_ltT, iv_ltF, iv_leT, iv_leF, iv_eqT, iv_eqF, iv_div, iv_mod, ↓bnI_s, ↓bnV_s, ↓bnJ_s, ↓bnR_s, rt_e, rt_0, rt_bz, sv_s, sv_o, ur_s, ur_e, ur_o, bz_T, bz_F, nat_eqF, Nat.reduceAdd, ↓q_M_bearsOf, ↓gR_435_0 F, ↓lI_436 F, ↓lI_437 F, ↓lI_438 F, ↓lI_439 F, ↓lI_440 F, ↓lI_441 F, ↓lI_443 F, ↓lI_444 F, ↓lI_445 F, ↓lI_446 F, ↓lI_447 F, ↓lI_448 F, ↓lI_449 F, ↓lI_450 F, ↓gd_435 F, il_0, il_1, il_2, il_5, il_11, il_27, il_99, e1, u6, f1]
  obtain ⟨rv, k1⟩ := key1
  obtain ⟨bv, k2⟩ := key2
  refine ⟨rv, bv, fun A k hx g0 g1 => ⟨(k1 A k hx g0 g1).1, (k2 A k hx g0 g1).1, fun V J t o T ht hK => ?_, fun U K w B hU h8 => ⟨(k1 A k hx g0 g1).2.2 U K w B hU h8, fun h2 => (k2 A k hx g0 g1).2.2 U K w B hU h8 h2⟩⟩⟩
  exact ⟨(k1 A k hx g0 g1).2.1 V J t o T ht hK, (k2 A k hx g0 g1).2.1 V J t o T ht hK⟩
end
