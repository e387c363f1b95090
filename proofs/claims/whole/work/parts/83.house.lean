/-! one house becomes another -/
def HH (H : Nat) : Prop := H = 9 ∨ H = 210
/-- every place of the rows of texts bears a text or nothing -/
def Fz (z : Zz) : Prop := ∀ H k, HH H → k < 4 → z.1 (H + 8) k = 0 ∨ ((8 ≤ z.1 (H + 8) k ∧ z.1 (H + 8) k < z.2.2.1) ∧ (z.2.1 (z.1 (H + 8) k)).1 = 25)
theorem stR_e {V J : Vm} {z : Zz} {a kk n x : Nat} {i : Int} {f : Mem → Rs} (h : z.2.1 a = (kk, n)) (hk : isRA kk = true) (h8 : 8 ≤ a) (hx : x = 0 ∨ (8 ≤ x ∧ (z.2.1 x).1 = kc kk)) (hi : 0 ≤ i ∧ i < n) (hn : n < 2147483648) : stR (em V J z) a (iv i) x f = f (em V J (va_up z.1 a (va_up (z.1 a) i.toNat x), z.2)) := by
  have b := ibi (n := n) hi hn
  have e0 : mS (em V J z) a = z.2.1 a := rfl
  have e1 : mS (em V J z) x = z.2.1 x := rfl
  have q : stR (em V J z) a (iv i) x f = f (wR (em V J z) a (va_up (mR (em V J z) a) (iv i).toNatClampNeg x)) := if_pos ⟨by rw [e0, h]; exact hk, h8, by rw [e0, e1, h]; exact hx, by rw [e0, h]; exact b⟩
  rw [q]
  have e : (iv i).toNatClampNeg = i.toNat := by
    have q1 : (iv i).toInt = i := iv_toInt (by omega)
    show (iv i).toInt.toNat = i.toNat
    rw [q1]
  rw [e]
  rfl
theorem R217 : ∀ j : Nat, j < 30 → R0 217 j = 231 + 6 * j ∧ isT (231 + 6 * j) = true := by decide +kernel
section
variable {V V' J : Vm} {z : Zz} {H H' : Nat}
theorem hS (F : Fix z) (h : HH H) : z.2.1 H = (18, 13) := by rcases h with rfl | rfl; exact s_9 F; exact s_210 F
theorem hS7 (F : Fix z) (h : HH H) : z.2.1 (H + 7) = (5, 30) := by rcases h with rfl | rfl; exact s_16 F; exact s_217 F
theorem hS8 (F : Fix z) (h : HH H) : z.2.1 (H + 8) = (6, 4) := by rcases h with rfl | rfl; exact s_17 F; exact s_218 F
theorem hS9 (F : Fix z) (h : HH H) : z.2.1 (H + 9) = (1, 36) := by rcases h with rfl | rfl; exact s_18 F; exact s_219 F
theorem hS10 (F : Fix z) (h : HH H) : z.2.1 (H + 10) = (1, 36) := by rcases h with rfl | rfl; exact s_19 F; exact s_220 F
theorem hS11 (F : Fix z) (h : HH H) : z.2.1 (H + 11) = (1, 8) := by rcases h with rfl | rfl; exact s_20 F; exact s_221 F
theorem hR_0 (F : Fix z) (h : HH H) {f : Nat → Rs} : gfR (em V J z) 2 0 H f = f (H + 1) := (gfR_e (hS F h)).trans (by rcases h with rfl | rfl; rw [r_9_0 F]; rw [r_210_0 F])
theorem hR_1 (F : Fix z) (h : HH H) {f : Nat → Rs} : gfR (em V J z) 2 1 H f = f (H + 7) := (gfR_e (hS F h)).trans (by rcases h with rfl | rfl; rw [r_9_1 F]; rw [r_210_1 F])
theorem hR_2 (F : Fix z) (h : HH H) {f : Nat → Rs} : gfR (em V J z) 2 2 H f = f (H + 8) := (gfR_e (hS F h)).trans (by rcases h with rfl | rfl; rw [r_9_2 F]; rw [r_210_2 F])
theorem hR_3 (F : Fix z) (h : HH H) {f : Nat → Rs} : gfR (em V J z) 2 3 H f = f (H + 9) := (gfR_e (hS F h)).trans (by rcases h with rfl | rfl; rw [r_9_3 F]; rw [r_210_3 F])
theorem hR_4 (F : Fix z) (h : HH H) {f : Nat → Rs} : gfR (em V J z) 2 4 H f = f (H + 10) := (gfR_e (hS F h)).trans (by rcases h with rfl | rfl; rw [r_9_4 F]; rw [r_210_4 F])
theorem hR_5 (F : Fix z) (h : HH H) {f : Nat → Rs} : gfR (em V J z) 2 5 H f = f (H + 11) := (gfR_e (hS F h)).trans (by rcases h with rfl | rfl; rw [r_9_5 F]; rw [r_210_5 F])
theorem hR_6 (F : Fix z) (h : HH H) {f : Nat → Rs} : gfR (em V J z) 2 6 H f = f (H + 12) := (gfR_e (hS F h)).trans (by rcases h with rfl | rfl; rw [r_9_6 F]; rw [r_210_6 F])
theorem hR_7 (F : Fix z) (h : HH H) {f : Nat → Rs} : gfR (em V J z) 2 7 H f = f (H + 15) := (gfR_e (hS F h)).trans (by rcases h with rfl | rfl; rw [r_9_7 F]; rw [r_210_7 F])
theorem hR_8 (F : Fix z) (h : HH H) {f : Nat → Rs} : gfR (em V J z) 2 8 H f = f (H + 18) := (gfR_e (hS F h)).trans (by rcases h with rfl | rfl; rw [r_9_8 F]; rw [r_210_8 F])
theorem hI_ (F : Fix z) (h : HH H) {k : Nat} {f : Int32 → Rs} : gfI (em V J z) 2 k H f = f (iv (V H k)) := gfI_e (hS F h)
theorem hP_ (F : Fix z) (h : HH H) {k : Nat} {x : Int} {f : Mem → Rs} : pfI (em V J z) 2 k H (iv x) f = f (em (sv V H k x) J z) := pfI_e (hS F h) (by rcases h with rfl | rfl <;> decide)
theorem hgd (F : Fix z) (h : HH H) {r : Rs} : grd (Nat.beq (mS (em V J z) H).1 18) r = r := grd_z (hS F h)
theorem hT1 (F : Fix z) (h : HH H) : Tab z (H + 1) := by
  rcases h with rfl | rfl
  · exact F.tab rfl
  · exact F.tab rfl
theorem hT6 (F : Fix z) (h : HH H) {j : Nat} (hj : j < 30) : Tab z (H + 21 + 6 * j) := by
  rcases h with rfl | rfl
  · exact F.tab (R16 j hj).2
  · exact F.tab (R217 j hj).2
theorem hStep (F : Fix z) (h : HH H) {i : Int} (hi : 0 ≤ i ∧ i < 30) : cA m_House_stepAt [.ref H, .int (iv i)] (em V J z) = some (.ref (H + 21 + 6 * i.toNat), em V J z) := by
  have r : z.1 (H + 7) i.toNat = H + 21 + 6 * i.toNat := by
    rcases h with rfl | rfl
    · exact r_16 F (by omega)
    · exact fx_R F (by decide) (by decide) (by decide) (by decide) (by omega) (R217 i.toNat (by omega)).1
  simp (disch := first | decide | omega | (simp (disch := first | decide | omega) only [sv_s, sv_o, ur_s, ur_e, ur_o]; omega)) only [↓reduceIte, iv_add, iv_sub, iv_mul, iv_neg, iv_ltT, iv_ltF, iv_leT, iv_leF, iv_eqT, iv_eqF, iv_div, iv_mod, ↓bnI_s, ↓bnV_s, ↓bnJ_s, ↓bnR_s, rt_e, rt_0, rt_bz, sv_s, sv_o, ur_s, ur_e, ur_o, bz_T, bz_F, nat_eqF, Nat.reduceAdd, ↓q_House_stepAt, ↓gR_9_1 F, ↓nI_18 F, ↓nI_19 F, ↓nI_20 F, ↓nI_22 F, ↓nI_23 F, ↓nI_25 F, ↓nI_26 F, ↓nI_28 F, ↓nI_29 F, ↓nI_418 F, ↓nI_420 F, ↓nI_421 F, ↓nI_422 F, ↓nI_423 F, ↓nI_425 F, ↓nI_426 F, ↓nI_428 F, ↓nI_429 F, ↓nI_432 F, ↓nI_433 F, ↓nI_434 F, ↓gd_9 F, il_0, il_1, il_2, il_18, ↓hgd F h, ↓hR_1 F h, ↓alN_e (hS7 F h) rfl, ↓ldR_e (hS7 F h) rfl, r]
/-- a row copied -/
theorem y_copyAll (F : Fix z) {a b n : Nat} (sa : z.2.1 a = (1, n)) (sB : z.2.1 b = (1, n)) (ab : a ≠ b) (hn : n < 1000) : ∃ V', cA m_House_copyAll [.ref b, .ref a] (em V J z) = some (.null, em V' J z) ∧ (∀ c, c ≠ a → V' c = V c) ∧ ∀ k, V' a k = if 0 ≤ k ∧ k < n then V b k else V a k := by
  have lp : ∀ (m : Nat) (V : Vm) (i : Int), 0 ≤ i → i + m = n → ∃ V', rX m_House_copyAll m_House_copyAll 2 [.ref b, .ref a, .int (iv i)] [] (em V J z) = some (.null, em V' J z) ∧ (∀ c, c ≠ a → V' c = V c) ∧ ∀ k, V' a k = if i ≤ k ∧ k < n then V b k else V a k := by
    intro m
    induction m with
    | zero =>
      intro V i i0 hi
      exact ⟨V, (by (rw [q_House_copyAll_2]; simp (disch := first | decide | omega | (simp (disch := first | decide | omega) only [sv_s, sv_o, ur_s, ur_e, ur_o]; omega)) only [↓reduceIte, iv_add, iv_sub, iv_mul, iv_neg, iv_ltT, iv_ltF, iv_leT, iv_leF, iv_eqT, iv_eqF, iv_div, iv_mod, ↓bnI_s, ↓bnV_s, ↓bnJ_s, ↓bnR_s, rt_e, rt_0, rt_bz, sv_s, sv_o, ur_s, ur_e, ur_o, bz_T, bz_F, nat_eqF, Nat.reduceAdd, ↓sI_18 F, ↓sI_19 F, ↓sI_20 F, ↓sI_22 F, ↓sI_23 F, ↓sI_25 F, ↓sI_26 F, ↓sI_28 F, ↓sI_29 F, ↓sI_418 F, ↓sI_420 F, ↓sI_421 F, ↓sI_422 F, ↓sI_423 F, ↓sI_425 F, ↓sI_426 F, ↓sI_428 F, ↓sI_429 F, ↓sI_432 F, ↓sI_433 F, ↓sI_434 F, ↓nI_18 F, ↓nI_19 F, ↓nI_20 F, ↓nI_22 F, ↓nI_23 F, ↓nI_25 F, ↓nI_26 F, ↓nI_28 F, ↓nI_29 F, ↓nI_418 F, ↓nI_420 F, ↓nI_421 F, ↓nI_422 F, ↓nI_423 F, ↓nI_425 F, ↓nI_426 F, ↓nI_428 F, ↓nI_429 F, ↓nI_432 F, ↓nI_433 F, ↓nI_434 F, il_0, il_1, il_2, ↓alN_e sa rfl])), fun _ _ => rfl, fun k => by rw [if_neg (by omega)]⟩
    | succ m ih =>
      intro V i i0 hi
      obtain ⟨V', e1, e2, e3⟩ := ih (sv V a i (V b i)) (i + 1) (by omega) (by omega)
      refine ⟨V', ?_, fun c hc => by rw [e2 c hc]; simp (disch := first | decide | omega | (simp (disch := first | decide | omega) only [sv_s, sv_o, ur_s, ur_e, ur_o]; omega)) only [↓reduceIte, iv_add, iv_sub, iv_mul, iv_neg, iv_ltT, iv_ltF, iv_leT, iv_leF, iv_eqT, iv_eqF, iv_div, iv_mod, ↓bnI_s, ↓bnV_s, ↓bnJ_s, ↓bnR_s, rt_e, rt_0, rt_bz, sv_s, sv_o, ur_s, ur_e, ur_o, bz_T, bz_F, nat_eqF, Nat.reduceAdd], fun k => ?_⟩
      · rw [← e1]
        (rw [q_House_copyAll_2]; simp (disch := first | decide | omega | (simp (disch := first | decide | omega) only [sv_s, sv_o, ur_s, ur_e, ur_o]; omega)) only [↓reduceIte, iv_add, iv_sub, iv_mul, iv_neg, iv_ltT, iv_ltF, iv_leT, iv_leF, iv_eqT, iv_eqF, iv_div, iv_mod, ↓bnI_s, ↓bnV_s, ↓bnJ_s, ↓bnR_s, rt_e, rt_0, rt_bz, sv_s, sv_o, ur_s, ur_e, ur_o, bz_T, bz_F, nat_eqF, Nat.reduceAdd, ↓sI_18 F, ↓sI_19 F, ↓sI_20 F, ↓sI_22 F, ↓sI_23 F, ↓sI_25 F, ↓sI_26 F, ↓sI_28 F, ↓sI_29 F, ↓sI_418 F, ↓sI_420 F, ↓sI_421 F, ↓sI_422 F, ↓sI_423 F, ↓sI_425 F, ↓sI_426 F, ↓sI_428 F, ↓sI_429 F, ↓sI_432 F, ↓sI_433 F, ↓sI_434 F, ↓nI_18 F, ↓nI_19 F, ↓nI_20 F, ↓nI_22 F, ↓nI_23 F, ↓nI_25 F, ↓nI_26 F, ↓nI_28 F, ↓nI_29 F, ↓nI_418 F, ↓nI_420 F, ↓nI_421 F, ↓nI_422 F, ↓nI_423 F, ↓nI_425 F, ↓nI_426 F, ↓nI_428 F, ↓nI_429 F, ↓nI_432 F, ↓nI_433 F, ↓nI_434 F, il_0, il_1, il_2, ↓alN_e sa rfl, y_get sB, rd_in, ↓stI_e sa])
      · rw [e3 k]
        by_cases q : k = i
        · subst q
          rw [if_neg (by omega), if_pos (by omega)]; simp (disch := first | decide | omega | (simp (disch := first | decide | omega) only [sv_s, sv_o, ur_s, ur_e, ur_o]; omega)) only [↓reduceIte, iv_add, iv_sub, iv_mul, iv_neg, iv_ltT, iv_ltF, iv_leT, iv_leF, iv_eqT, iv_eqF, iv_div, iv_mod, ↓bnI_s, ↓bnV_s, ↓bnJ_s, ↓bnR_s, rt_e, rt_0, rt_bz, sv_s, sv_o, ur_s, ur_e, ur_o, bz_T, bz_F, nat_eqF, Nat.reduceAdd]
        · by_cases w : i + 1 ≤ k ∧ k < n
          · rw [if_pos w, if_pos (by omega)]; simp (disch := first | decide | omega | (simp (disch := first | decide | omega) only [sv_s, sv_o, ur_s, ur_e, ur_o]; omega)) only [↓reduceIte, iv_add, iv_sub, iv_mul, iv_neg, iv_ltT, iv_ltF, iv_leT, iv_leF, iv_eqT, iv_eqF, iv_div, iv_mod, ↓bnI_s, ↓bnV_s, ↓bnJ_s, ↓bnR_s, rt_e, rt_0, rt_bz, sv_s, sv_o, ur_s, ur_e, ur_o, bz_T, bz_F, nat_eqF, Nat.reduceAdd]
          · rw [if_neg w, if_neg (by omega)]; simp (disch := first | decide | omega | (simp (disch := first | decide | omega) only [sv_s, sv_o, ur_s, ur_e, ur_o]; omega)) only [↓reduceIte, iv_add, iv_sub, iv_mul, iv_neg, iv_ltT, iv_ltF, iv_leT, iv_leF, iv_eqT, iv_eqF, iv_div, iv_mod, ↓bnI_s, ↓bnV_s, ↓bnJ_s, ↓bnR_s, rt_e, rt_0, rt_bz, sv_s, sv_o, ur_s, ur_e, ur_o, bz_T, bz_F, nat_eqF, Nat.reduceAdd]
  obtain ⟨V', e1, e2, e3⟩ := lp n V 0 (by omega) (by omega)
  exact ⟨V', (by rw [q_House_copyAll, il_0]; exact e1), e2, e3⟩
/-- a pair of rows -/
def PT (z : Zz) (p m : Nat) : Prop := z.2.1 p = (19, 3) ∧ z.2.1 (p + 1) = (1, m) ∧ z.2.1 (p + 2) = (1, m) ∧ z.1 p 0 = p + 1 ∧ z.1 p 1 = p + 2 ∧ 8 ≤ p
theorem hP12 (F : Fix z) (h : HH H) : PT z (H + 12) 6 := by
  rcases h with rfl | rfl
  · exact ⟨s_21 F, s_22 F, s_23 F, r_21_0 F, r_21_1 F, by decide⟩
  · exact ⟨s_222 F, s_223 F, s_224 F, r_222_0 F, r_222_1 F, by decide⟩
theorem hP15 (F : Fix z) (h : HH H) : PT z (H + 15) 8 := by
  rcases h with rfl | rfl
  · exact ⟨s_24 F, s_25 F, s_26 F, r_24_0 F, r_24_1 F, by decide⟩
  · exact ⟨s_225 F, s_226 F, s_227 F, r_225_0 F, r_225_1 F, by decide⟩
theorem hP18 (F : Fix z) (h : HH H) : PT z (H + 18) 8 := by
  rcases h with rfl | rfl
  · exact ⟨s_27 F, s_28 F, s_29 F, r_27_0 F, r_27_1 F, by decide⟩
  · exact ⟨s_228 F, s_229 F, s_230 F, r_228_0 F, r_228_1 F, by decide⟩
theorem y_pairs (F : Fix z) {p s m : Nat} (P : PT z p m) (S : PT z s m) (d : p + 3 ≤ s ∨ s + 3 ≤ p) (hm : m < 1000) : ∃ V', cA m_Pairs_become [.ref p, .ref s] (em V J z) = some (.null, em V' J z) ∧ (∀ c, c ≠ p → c ≠ p + 1 → c ≠ p + 2 → V' c = V c) ∧ V' p 2 = V s 2 ∧ ∀ k : Int, 0 ≤ k → k < m → V' (p + 1) k = V (s + 1) k ∧ V' (p + 2) k = V (s + 2) k := by
  obtain ⟨p1, p2, p3, p4, p5, p8⟩ := P
  obtain ⟨c1, c2, c3, c4, c5, c8⟩ := S
  have g0 : ∀ (V J : Vm) (f : Nat → Rs), gfR (em V J z) 3 0 p f = f (p + 1) := fun V J f => (gfR_e p1).trans (by rw [p4])
  have g1 : ∀ (V J : Vm) (f : Nat → Rs), gfR (em V J z) 3 1 p f = f (p + 2) := fun V J f => (gfR_e p1).trans (by rw [p5])
  have k0 : ∀ (V J : Vm) (f : Nat → Rs), gfR (em V J z) 3 0 s f = f (s + 1) := fun V J f => (gfR_e c1).trans (by rw [c4])
  have k1 : ∀ (V J : Vm) (f : Nat → Rs), gfR (em V J z) 3 1 s f = f (s + 2) := fun V J f => (gfR_e c1).trans (by rw [c5])
  have lp : ∀ (r : Nat) (V : Vm) (i : Int), 0 ≤ i → i + r = m → ∃ V', rX m_Pairs_become m_Pairs_become 10 [.ref p, .ref s, .int (iv i)] [] (em V J z) = some (.null, em V' J z) ∧ (∀ c, c ≠ p + 1 → c ≠ p + 2 → V' c = V c) ∧ ∀ k, (V' (p + 1) k = if i ≤ k ∧ k < m then V (s + 1) k else V (p + 1) k) ∧ (V' (p + 2) k = if i ≤ k ∧ k < m then V (s + 2) k else V (p + 2) k) := by
    intro r
    induction r with
    | zero =>
      intro V i i0 hi
      exact ⟨V, (by (rw [q_Pairs_become_10]; simp (disch := first | decide | omega | (simp (disch := first | decide | omega) only [sv_s, sv_o, ur_s, ur_e, ur_o]; omega)) only [↓reduceIte, iv_add, iv_sub, iv_mul, iv_neg, iv_ltT, iv_ltF, iv_leT, iv_leF, iv_eqT, iv_eqF, iv_div, iv_mod, ↓bnI_s, ↓bnV_s, ↓bnJ_s, ↓bnR_s, rt_e, rt_0, rt_bz, sv_s, sv_o, ur_s, ur_e, ur_o, bz_T, bz_F, nat_eqF, Nat.reduceAdd, ↓gR_21_0 F, ↓gR_24_0 F, ↓gR_27_0 F, ↓gR_21_1 F, ↓gR_24_1 F, ↓gR_27_1 F, ↓sI_18 F, ↓sI_19 F, ↓sI_20 F, ↓sI_22 F, ↓sI_23 F, ↓sI_25 F, ↓sI_26 F, ↓sI_28 F, ↓sI_29 F, ↓sI_418 F, ↓sI_420 F, ↓sI_421 F, ↓sI_422 F, ↓sI_423 F, ↓sI_425 F, ↓sI_426 F, ↓sI_428 F, ↓sI_429 F, ↓sI_432 F, ↓sI_433 F, ↓sI_434 F, ↓nI_18 F, ↓nI_19 F, ↓nI_20 F, ↓nI_22 F, ↓nI_23 F, ↓nI_25 F, ↓nI_26 F, ↓nI_28 F, ↓nI_29 F, ↓nI_418 F, ↓nI_420 F, ↓nI_421 F, ↓nI_422 F, ↓nI_423 F, ↓nI_425 F, ↓nI_426 F, ↓nI_428 F, ↓nI_429 F, ↓nI_432 F, ↓nI_433 F, ↓nI_434 F, il_0, il_1, il_3, il_10, g0, ↓alN_e p2 rfl])), fun _ _ _ => rfl, fun k => by rw [if_neg (by omega), if_neg (by omega)]; exact ⟨rfl, rfl⟩⟩
    | succ r ih =>
      intro V i i0 hi
      obtain ⟨V', e1, e2, e3⟩ := ih (sv (sv V (p + 1) i (V (s + 1) i)) (p + 2) i (V (s + 2) i)) (i + 1) (by omega) (by omega)
      refine ⟨V', ?_, fun c h1 h2 => by rw [e2 c h1 h2]; simp (disch := first | decide | omega | (simp (disch := first | decide | omega) only [sv_s, sv_o, ur_s, ur_e, ur_o]; omega)) only [↓reduceIte, iv_add, iv_sub, iv_mul, iv_neg, iv_ltT, iv_ltF, iv_leT, iv_leF, iv_eqT, iv_eqF, iv_div, iv_mod, ↓bnI_s, ↓bnV_s, ↓bnJ_s, ↓bnR_s, rt_e, rt_0, rt_bz, sv_s, sv_o, ur_s, ur_e, ur_o, bz_T, bz_F, nat_eqF, Nat.reduceAdd], fun k => ?_⟩
      · rw [← e1]
        (rw [q_Pairs_become_10]; simp (disch := first | decide | omega | (simp (disch := first | decide | omega) only [sv_s, sv_o, ur_s, ur_e, ur_o]; omega)) only [↓reduceIte, iv_add, iv_sub, iv_mul, iv_neg, iv_ltT, iv_ltF, iv_leT, iv_leF, iv_eqT, iv_eqF, iv_div, iv_mod, ↓bnI_s, ↓bnV_s, ↓bnJ_s, ↓bnR_s, rt_e, rt_0, rt_bz, sv_s, sv_o, ur_s, ur_e, ur_o, bz_T, bz_F, nat_eqF, Nat.reduceAdd, ↓gR_21_0 F, ↓gR_24_0 F, ↓gR_27_0 F, ↓gR_21_1 F, ↓gR_24_1 F, ↓gR_27_1 F, ↓sI_18 F, ↓sI_19 F, ↓sI_20 F, ↓sI_22 F, ↓sI_23 F, ↓sI_25 F, ↓sI_26 F, ↓sI_28 F, ↓sI_29 F, ↓sI_418 F, ↓sI_420 F, ↓sI_421 F, ↓sI_422 F, ↓sI_423 F, ↓sI_425 F, ↓sI_426 F, ↓sI_428 F, ↓sI_429 F, ↓sI_432 F, ↓sI_433 F, ↓sI_434 F, ↓nI_18 F, ↓nI_19 F, ↓nI_20 F, ↓nI_22 F, ↓nI_23 F, ↓nI_25 F, ↓nI_26 F, ↓nI_28 F, ↓nI_29 F, ↓nI_418 F, ↓nI_420 F, ↓nI_421 F, ↓nI_422 F, ↓nI_423 F, ↓nI_425 F, ↓nI_426 F, ↓nI_428 F, ↓nI_429 F, ↓nI_432 F, ↓nI_433 F, ↓nI_434 F, il_0, il_1, il_3, il_10, g0, g1, k0, k1, ↓alN_e p2 rfl, y_get c2, y_get c3, rd_in, ↓stI_e p2, y_put p3, pt_in])
      · rw [(e3 k).1, (e3 k).2]
        by_cases q : k = i
        · subst q
          have n1 : ¬ (k + 1 ≤ k ∧ k < m) := by omega
          have n2 : k ≤ k ∧ k < m := by omega
          rw [if_neg n1, if_neg n1, if_pos n2, if_pos n2]; simp (disch := first | decide | omega | (simp (disch := first | decide | omega) only [sv_s, sv_o, ur_s, ur_e, ur_o]; omega)) only [↓reduceIte, iv_add, iv_sub, iv_mul, iv_neg, iv_ltT, iv_ltF, iv_leT, iv_leF, iv_eqT, iv_eqF, iv_div, iv_mod, ↓bnI_s, ↓bnV_s, ↓bnJ_s, ↓bnR_s, rt_e, rt_0, rt_bz, sv_s, sv_o, ur_s, ur_e, ur_o, bz_T, bz_F, nat_eqF, Nat.reduceAdd, and_self]
        · by_cases w : i + 1 ≤ k ∧ k < m
          · rw [if_pos w, if_pos w, if_pos (by omega), if_pos (by omega)]; simp (disch := first | decide | omega | (simp (disch := first | decide | omega) only [sv_s, sv_o, ur_s, ur_e, ur_o]; omega)) only [↓reduceIte, iv_add, iv_sub, iv_mul, iv_neg, iv_ltT, iv_ltF, iv_leT, iv_leF, iv_eqT, iv_eqF, iv_div, iv_mod, ↓bnI_s, ↓bnV_s, ↓bnJ_s, ↓bnR_s, rt_e, rt_0, rt_bz, sv_s, sv_o, ur_s, ur_e, ur_o, bz_T, bz_F, nat_eqF, Nat.reduceAdd, and_self]
          · rw [if_neg w, if_neg w, if_neg (by omega), if_neg (by omega)]; simp (disch := first | decide | omega | (simp (disch := first | decide | omega) only [sv_s, sv_o, ur_s, ur_e, ur_o]; omega)) only [↓reduceIte, iv_add, iv_sub, iv_mul, iv_neg, iv_ltT, iv_ltF, iv_leT, iv_leF, iv_eqT, iv_eqF, iv_div, iv_mod, ↓bnI_s, ↓bnV_s, ↓bnJ_s, ↓bnR_s, rt_e, rt_0, rt_bz, sv_s, sv_o, ur_s, ur_e, ur_o, bz_T, bz_F, nat_eqF, Nat.reduceAdd, and_self]
  obtain ⟨V', e1, e2, e3⟩ := lp m (sv V p 2 (V s 2)) 0 (by omega) (by omega)
  refine ⟨V', ?_, fun c h0 h1 h2 => by rw [e2 c h1 h2]; simp (disch := first | decide | omega | (simp (disch := first | decide | omega) only [sv_s, sv_o, ur_s, ur_e, ur_o]; omega)) only [↓reduceIte, iv_add, iv_sub, iv_mul, iv_neg, iv_ltT, iv_ltF, iv_leT, iv_leF, iv_eqT, iv_eqF, iv_div, iv_mod, ↓bnI_s, ↓bnV_s, ↓bnJ_s, ↓bnR_s, rt_e, rt_0, rt_bz, sv_s, sv_o, ur_s, ur_e, ur_o, bz_T, bz_F, nat_eqF, Nat.reduceAdd], by rw [e2 p (by omega) (by omega)]; simp (disch := first | decide | omega | (simp (disch := first | decide | omega) only [sv_s, sv_o, ur_s, ur_e, ur_o]; omega)) only [↓reduceIte, iv_add, iv_sub, iv_mul, iv_neg, iv_ltT, iv_ltF, iv_leT, iv_leF, iv_eqT, iv_eqF, iv_div, iv_mod, ↓bnI_s, ↓bnV_s, ↓bnJ_s, ↓bnR_s, rt_e, rt_0, rt_bz, sv_s, sv_o, ur_s, ur_e, ur_o, bz_T, bz_F, nat_eqF, Nat.reduceAdd], fun k h0 h1 => ?_⟩
  · rw [← e1, q_Pairs_become]
    refine (grd_z p1).trans ?_
    rw [gfI_e c1, pfI_e p1 p8, il_0]
    rfl
  · rw [(e3 k).1, (e3 k).2, if_pos ⟨h0, h1⟩, if_pos ⟨h0, h1⟩]; simp (disch := first | decide | omega | (simp (disch := first | decide | omega) only [sv_s, sv_o, ur_s, ur_e, ur_o]; omega)) only [↓reduceIte, iv_add, iv_sub, iv_mul, iv_neg, iv_ltT, iv_ltF, iv_leT, iv_leF, iv_eqT, iv_eqF, iv_div, iv_mod, ↓bnI_s, ↓bnV_s, ↓bnJ_s, ↓bnR_s, rt_e, rt_0, rt_bz, sv_s, sv_o, ur_s, ur_e, ur_o, bz_T, bz_F, nat_eqF, Nat.reduceAdd, and_self]
/-- a table shows what another showed -/
def TC (V V' : Vm) (t s : Nat) : Prop := (V' t 5 = V s 5 ∧ V' t 6 = V s 6 ∧ V' t 7 = V s 7 ∧ V' t 8 = V s 8 ∧ V' t 9 = V s 9) ∧ (∀ k, 0 ≤ k → k < 6 → V' (t + 1) k = V (s + 1) k ∧ V' (t + 2) k = V (s + 2) k ∧ V' (t + 3) k = V (s + 3) k ∧ V' (t + 4) k = V (s + 4) k) ∧ ∀ k, 0 ≤ k → k < 25 → V' (t + 5) k = V (s + 5) k
theorem TC.mv {W W' : Vm} {t s : Nat} (h : TC V V' t s) (e : ∀ x, x < 6 → W (s + x) = V (s + x)) (e' : ∀ x, x < 6 → W' (t + x) = V' (t + x)) : TC W W' t s := by
  have a0 : W s = V s := e 0 (by decide)
  have b0 : W' t = V' t := e' 0 (by decide)
  unfold TC
  rw [a0, b0, e 1 (by decide), e 2 (by decide), e 3 (by decide), e 4 (by decide), e 5 (by decide), e' 1 (by decide), e' 2 (by decide), e' 3 (by decide), e' 4 (by decide), e' 5 (by decide)]
  exact h
theorem y_hb13 (F : Fix z) (h : HH H) (h' : HH H') (ne : H ≠ H') : ∀ (m : Nat) (V : Vm) (i : Int), 0 ≤ i → i + m = 30 → ∃ V', rX m_House_become m_House_become 13 [.ref H', .ref H, .int (iv i), dd, dd] [] (em V J z) = rX m_House_become m_House_become 55 [.ref H', .ref H, .int (iv 0), dd, dd] [] (em V' J z) ∧ (∀ a, ¬ (H' + 21 + 6 * i.toNat ≤ a ∧ a < H' + 201) → V' a = V a) ∧ ∀ j, i.toNat ≤ j → j < 30 → TC V V' (H' + 21 + 6 * j) (H + 21 + 6 * j) := by
  have hh : H + 201 ≤ H' ∨ H' + 201 ≤ H := by
    rcases h with rfl | rfl
    · rcases h' with rfl | rfl
      · exact absurd rfl ne
      · omega
    · rcases h' with rfl | rfl
      · omega
      · exact absurd rfl ne
  intro m
  induction m with
  | zero =>
    intro V i i0 hi
    exact ⟨V, (by (rw [q_House_become_13]; simp (disch := first | decide | omega | (simp (disch := first | decide | omega) only [sv_s, sv_o, ur_s, ur_e, ur_o]; omega)) only [↓reduceIte, iv_add, iv_sub, iv_mul, iv_neg, iv_ltT, iv_ltF, iv_leT, iv_leF, iv_eqT, iv_eqF, iv_div, iv_mod, ↓bnI_s, ↓bnV_s, ↓bnJ_s, ↓bnR_s, rt_e, rt_0, rt_bz, sv_s, sv_o, ur_s, ur_e, ur_o, bz_T, bz_F, nat_eqF, Nat.reduceAdd, il_0, il_1, il_13, il_30, il_55])), fun _ _ => rfl, fun j h1 h2 => absurd h2 (by omega)⟩
  | succ m ih =>
    intro V i i0 hi
    have ij : (i + 1).toNat = i.toNat + 1 := by omega
    have hT := hT6 F h' (j := i.toNat) (by omega)
    have hS := hT6 F h (j := i.toNat) (by omega)
    obtain ⟨V1, b1, b2, b3, b4, b5⟩ := y_become (V := V) (J := J) hT hS (by omega)
    obtain ⟨V2, c1, c2, c3⟩ := ih V1 (i + 1) (by omega) (by omega)
    rw [ij] at c2 c3
    have s1 := hStep (V := V) (J := J) F h' (i := i) (by omega)
    have s2 := hStep (V := V) (J := J) F h (i := i) (by omega)
    have z1 : (H' + 21 + 6 * i.toNat = 0) = False := eq_false (by omega)
    have z2 : (H + 21 + 6 * i.toNat = 0) = False := eq_false (by omega)
    refine ⟨V2, ?_, fun a ha => ?_, fun j j0 j1 => ?_⟩
    · rw [← c1]
      (rw [q_House_become_13]; simp (disch := first | decide | omega | (simp (disch := first | decide | omega) only [sv_s, sv_o, ur_s, ur_e, ur_o]; omega)) only [↓reduceIte, iv_add, iv_sub, iv_mul, iv_neg, iv_ltT, iv_ltF, iv_leT, iv_leF, iv_eqT, iv_eqF, iv_div, iv_mod, ↓bnI_s, ↓bnV_s, ↓bnJ_s, ↓bnR_s, rt_e, rt_0, rt_bz, sv_s, sv_o, ur_s, ur_e, ur_o, bz_T, bz_F, nat_eqF, Nat.reduceAdd, il_0, il_1, il_13, il_30, il_55, s1, s2, z1, z2, b1])
    · rw [c2 a (by omega), b2 a (by omega)]
    · by_cases q : j = i.toNat
      · subst q
        exact TC.mv (V := V) (V' := V1) ⟨b3, b4, b5⟩ (fun x _ => rfl) (fun x hx => c2 _ (by omega))
      · exact TC.mv (V := V1) (V' := V2) (c3 j (by omega) j1) (fun x hx => (b2 _ (by omega)).symm) (fun x _ => rfl)
end
