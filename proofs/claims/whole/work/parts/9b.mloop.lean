/-! THE READING, the model's loop step by step -/
abbrev Sm : Type := (Int → Int) × (Int → Int) × (Int → Int) × (Int → Int) × (Int → Int) × Int × Int × Int × Int
def sB (s : Sm) : Int → Int := s.1
def sK (s : Sm) : Int → Int := s.2.1
def sV (s : Sm) : Int → Int := s.2.2.1
def sP (s : Sm) : Int → Int := s.2.2.2.1
def sE (s : Sm) : Int → Int := s.2.2.2.2.1
def sN (s : Sm) : Int := s.2.2.2.2.2.1
def sM (s : Sm) : Int := s.2.2.2.2.2.2.1
def sX (s : Sm) : Int := s.2.2.2.2.2.2.2.1
def sL (s : Sm) : Int := s.2.2.2.2.2.2.2.2
/-- the tokens of the tape, where the text goes to, the law that is read -/
def SO (s : Sm) : Prop := (0 ≤ sM s ∧ sM s ≤ sN s ∧ sN s ≤ 300) ∧ (0 ≤ sX s ∧ sX s ≤ 2043) ∧ (sL s = 0 ∨ sL s = 1) ∧ ∀ j, 0 ≤ j → j ≤ sM s → (j ≤ sE s j ∧ sE s j ≤ sN s) ∧ Tok (sB s) (sN s) (sE s j) (sP s j) (sK s j) (sE s (j + 1)) (sV s j) ∧ (sK s j = 40 ↔ j = sM s)
theorem nmC_rg (b : Int → Int) : ∀ (m : Nat) (p x : Int), (∀ j, p ≤ j → j < p + m → isDg (b j)) → (0 ≤ x ∧ x ≤ 10000) → 0 ≤ nmC b p m x ∧ nmC b p m x ≤ 10000 := by
  intro m
  induction m with
  | zero => exact fun _ _ _ h => h
  | succ m ih =>
    intro p x hb h
    have d := hb p (by omega) (by omega)
    unfold isDg at d
    exact ih (p + 1) _ (fun j j0 j1 => hb j (by omega) (by omega)) (by omega)
theorem sgK_rg (c : Int) : (25 ≤ sgK c ∧ sgK c ≤ 35) ∨ sgK c = 39 := by
  unfold sgK
  repeat' split
  all_goals omega
theorem Tok.rg {b : Int → Int} {n c p k e v : Int} (T : Tok b n c p k e v) : (c ≤ p ∧ p ≤ e ∧ e ≤ n) ∧ (0 ≤ k ∧ k ≤ 40) ∧ (0 ≤ v ∧ v ≤ 10000) := by
  obtain ⟨R, h⟩ := T
  have R1 := R.1
  rcases h with ⟨h1, h2, h3, h4⟩ | ⟨h1, h2, h3, h4, h5⟩ | ⟨h1, h2, h3, h4, h5⟩ | ⟨h1, h2, h3, h4, h5, h6⟩
  · omega
  · have q := nmC_rg b (e - p).toNat p 0 (fun j j0 j1 => h3.2.1 j j0 (by have := h3.1; omega)) (by omega)
    have := h3.1
    omega
  · have := h3.1
    have := h4.rg
    omega
  · have q := sgK_rg (b p)
    unfold SG at h5
    omega
theorem SO.rg {s : Sm} (S : SO s) {j : Int} (h0 : 0 ≤ j) (h1 : j ≤ sM s) : (0 ≤ sP s j ∧ sP s j ≤ 300) ∧ (0 ≤ sE s (j + 1) ∧ sE s (j + 1) ≤ sN s) ∧ (0 ≤ sK s j ∧ sK s j ≤ 40) ∧ (0 ≤ sV s j ∧ sV s j ≤ 10000) := by
  obtain ⟨a, b, c, d⟩ := S
  obtain ⟨e1, e2, e3⟩ := d j h0 h1
  have r := e2.rg
  omega
/-- the model's token at hand is number i -/
def Mt (U K : Vm) (s : Sm) (i : Int) : Prop := B2 U (sB s) (sN s) ∧ MT U K (sB s) (sP s i) (sK s i) (sE s (i + 1)) (sV s i)
theorem Mt.c {U U' K : Vm} {s : Sm} {i : Int} (h : Mt U K s i) (a : U' 439 = U 439) (c : ∀ k, k = 4 ∨ (7 ≤ k ∧ k ≤ 10) → U' 435 k = U 435 k) : Mt U' K s i := by
  unfold Mt B2 MT at *
  rw [a, c 4 (by omega), c 7 (by omega), c 8 (by omega), c 9 (by omega), c 10 (by omega)]
  exact h
theorem Mt.nextT {U K : Vm} {z : Zz} {s : Sm} {i : Int} (F : Fix z) (S : SO s) (T : Mt U K s i) (hi : 0 ≤ i ∧ i < sM s) : ∃ U' K', cA m_M_nextToken [.ref 435] (em U K z) = some (.null, em U' K' z) ∧ frN U U' ∧ Mt U' K' s (i + 1) := by
  obtain ⟨t1, t2⟩ := T
  have g := S.2.2.2 (i + 1) (by omega) (by omega)
  obtain ⟨U', K', e1, e2, e3⟩ := y_nextT (K := K) F t1 t2.1 (by have := S.1; omega) g.2.1
  exact ⟨U', K', e1, e2, e2.b2 t1, e3⟩
/-- the state of the reading: token, pile, how many are open, code -/
def Ps (U K : Vm) (s : Sm) (i p d w : Int) : Prop := Mt U K s i ∧ U 435 16 = p ∧ U 435 17 = d ∧ U 435 13 = w ∧ U 435 12 = sX s ∧ U 435 14 = sL s
/-- what the reading of a sum touches -/
def frQ (s : Sm) (p w : Int) (U U' : Vm) : Prop := (∀ a, a ≠ 435 → a ≠ 438 → a ≠ 440 → U' a = U a) ∧ (∀ k, ¬ (7 ≤ k ∧ k ≤ 10) → k ≠ 13 → k ≠ 16 → k ≠ 17 → k ≠ 18 → U' 435 k = U 435 k) ∧ (∀ k, k < p → U' 440 k = U 440 k) ∧ ∀ k, (k < sX s + 73 + 2 * w ∨ sX s + 681 ≤ k) → U' 438 k = U 438 k
theorem frQ.rfl_ {s : Sm} {p w : Int} {U : Vm} : frQ s p w U U := ⟨fun _ _ _ _ => rfl, fun _ _ _ _ _ _ => rfl, fun _ _ => rfl, fun _ _ => rfl⟩
theorem frQ.tr {s : Sm} {p w p' w' : Int} {U U' U'' : Vm} (h : frQ s p w U U') (h' : frQ s p' w' U' U'') (hp : p ≤ p') (hw : w ≤ w') : frQ s p w U U'' := by
  obtain ⟨a1, a2, a3, a4⟩ := h
  obtain ⟨b1, b2, b3, b4⟩ := h'
  exact ⟨fun a h1 h2 h3 => (b1 a h1 h2 h3).trans (a1 a h1 h2 h3), fun k h1 h2 h3 h4 h5 => (b2 k h1 h2 h3 h4 h5).trans (a2 k h1 h2 h3 h4 h5), fun k hk => (b3 k (by omega)).trans (a3 k hk), fun k hk => (b4 k (by omega)).trans (a4 k hk)⟩
theorem frQ.of_n {s : Sm} {p w : Int} {U U' : Vm} (h : frN U U') : frQ s p w U U' := by
  obtain ⟨a, b⟩ := h
  exact ⟨fun c h1 _ _ => a c h1, fun k h1 _ _ _ _ => b k (by omega) (by omega) (by omega) (by omega), fun k _ => by rw [a 440 (by decide)], fun k _ => by rw [a 438 (by decide)]⟩
theorem frQ.w5 {s : Sm} {p w : Int} {U : Vm} {k x : Int} (h : k = 13 ∨ k = 16 ∨ k = 17 ∨ k = 18) : frQ s p w U (sv U 435 k x) := ⟨fun c h1 _ _ => by simp (disch := first | decide | omega | (simp (disch := first | decide | omega) only [sv_s, sv_o, ur_s, ur_e, ur_o]; omega)) only [↓reduceIte, iv_add, iv_sub, iv_mul, iv_neg, iv_ltT, iv_ltF, iv_leT, iv_leF, iv_eqT, iv_eqF, iv_div, iv_mod, ↓bnI_s, ↓bnV_s, ↓bnJ_s, ↓bnR_s, rt_e, rt_0, rt_bz, sv_s, sv_o, ur_s, ur_e, ur_o, bz_T, bz_F, nat_eqF, Nat.reduceAdd], fun j h1 h2 h3 h4 h5 => by simp (disch := first | decide | omega | (simp (disch := first | decide | omega) only [sv_s, sv_o, ur_s, ur_e, ur_o]; omega)) only [↓reduceIte, iv_add, iv_sub, iv_mul, iv_neg, iv_ltT, iv_ltF, iv_leT, iv_leF, iv_eqT, iv_eqF, iv_div, iv_mod, ↓bnI_s, ↓bnV_s, ↓bnJ_s, ↓bnR_s, rt_e, rt_0, rt_bz, sv_s, sv_o, ur_s, ur_e, ur_o, bz_T, bz_F, nat_eqF, Nat.reduceAdd], fun j _ => by simp (disch := first | decide | omega | (simp (disch := first | decide | omega) only [sv_s, sv_o, ur_s, ur_e, ur_o]; omega)) only [↓reduceIte, iv_add, iv_sub, iv_mul, iv_neg, iv_ltT, iv_ltF, iv_leT, iv_leF, iv_eqT, iv_eqF, iv_div, iv_mod, ↓bnI_s, ↓bnV_s, ↓bnJ_s, ↓bnR_s, rt_e, rt_0, rt_bz, sv_s, sv_o, ur_s, ur_e, ur_o, bz_T, bz_F, nat_eqF, Nat.reduceAdd], fun j _ => by simp (disch := first | decide | omega | (simp (disch := first | decide | omega) only [sv_s, sv_o, ur_s, ur_e, ur_o]; omega)) only [↓reduceIte, iv_add, iv_sub, iv_mul, iv_neg, iv_ltT, iv_ltF, iv_leT, iv_leF, iv_eqT, iv_eqF, iv_div, iv_mod, ↓bnI_s, ↓bnV_s, ↓bnJ_s, ↓bnR_s, rt_e, rt_0, rt_bz, sv_s, sv_o, ur_s, ur_e, ur_o, bz_T, bz_F, nat_eqF, Nat.reduceAdd]⟩
theorem frQ.w40 {s : Sm} {p w : Int} {U : Vm} {k x : Int} (h : p ≤ k) : frQ s p w U (sv U 440 k x) := ⟨fun c _ _ h1 => by simp (disch := first | decide | omega | (simp (disch := first | decide | omega) only [sv_s, sv_o, ur_s, ur_e, ur_o]; omega)) only [↓reduceIte, iv_add, iv_sub, iv_mul, iv_neg, iv_ltT, iv_ltF, iv_leT, iv_leF, iv_eqT, iv_eqF, iv_div, iv_mod, ↓bnI_s, ↓bnV_s, ↓bnJ_s, ↓bnR_s, rt_e, rt_0, rt_bz, sv_s, sv_o, ur_s, ur_e, ur_o, bz_T, bz_F, nat_eqF, Nat.reduceAdd], fun j h1 h2 h3 h4 h5 => by simp (disch := first | decide | omega | (simp (disch := first | decide | omega) only [sv_s, sv_o, ur_s, ur_e, ur_o]; omega)) only [↓reduceIte, iv_add, iv_sub, iv_mul, iv_neg, iv_ltT, iv_ltF, iv_leT, iv_leF, iv_eqT, iv_eqF, iv_div, iv_mod, ↓bnI_s, ↓bnV_s, ↓bnJ_s, ↓bnR_s, rt_e, rt_0, rt_bz, sv_s, sv_o, ur_s, ur_e, ur_o, bz_T, bz_F, nat_eqF, Nat.reduceAdd], fun j _ => by simp (disch := first | decide | omega | (simp (disch := first | decide | omega) only [sv_s, sv_o, ur_s, ur_e, ur_o]; omega)) only [↓reduceIte, iv_add, iv_sub, iv_mul, iv_neg, iv_ltT, iv_ltF, iv_leT, iv_leF, iv_eqT, iv_eqF, iv_div, iv_mod, ↓bnI_s, ↓bnV_s, ↓bnJ_s, ↓bnR_s, rt_e, rt_0, rt_bz, sv_s, sv_o, ur_s, ur_e, ur_o, bz_T, bz_F, nat_eqF, Nat.reduceAdd], fun j _ => by simp (disch := first | decide | omega | (simp (disch := first | decide | omega) only [sv_s, sv_o, ur_s, ur_e, ur_o]; omega)) only [↓reduceIte, iv_add, iv_sub, iv_mul, iv_neg, iv_ltT, iv_ltF, iv_leT, iv_leF, iv_eqT, iv_eqF, iv_div, iv_mod, ↓bnI_s, ↓bnV_s, ↓bnJ_s, ↓bnR_s, rt_e, rt_0, rt_bz, sv_s, sv_o, ur_s, ur_e, ur_o, bz_T, bz_F, nat_eqF, Nat.reduceAdd]⟩
theorem frQ.w38 {s : Sm} {p w : Int} {U : Vm} {k x : Int} (h : sX s + 73 + 2 * w ≤ k ∧ k < sX s + 681) : frQ s p w U (sv U 438 k x) := ⟨fun c _ h1 _ => by simp (disch := first | decide | omega | (simp (disch := first | decide | omega) only [sv_s, sv_o, ur_s, ur_e, ur_o]; omega)) only [↓reduceIte, iv_add, iv_sub, iv_mul, iv_neg, iv_ltT, iv_ltF, iv_leT, iv_leF, iv_eqT, iv_eqF, iv_div, iv_mod, ↓bnI_s, ↓bnV_s, ↓bnJ_s, ↓bnR_s, rt_e, rt_0, rt_bz, sv_s, sv_o, ur_s, ur_e, ur_o, bz_T, bz_F, nat_eqF, Nat.reduceAdd], fun j h1 h2 h3 h4 h5 => by simp (disch := first | decide | omega | (simp (disch := first | decide | omega) only [sv_s, sv_o, ur_s, ur_e, ur_o]; omega)) only [↓reduceIte, iv_add, iv_sub, iv_mul, iv_neg, iv_ltT, iv_ltF, iv_leT, iv_leF, iv_eqT, iv_eqF, iv_div, iv_mod, ↓bnI_s, ↓bnV_s, ↓bnJ_s, ↓bnR_s, rt_e, rt_0, rt_bz, sv_s, sv_o, ur_s, ur_e, ur_o, bz_T, bz_F, nat_eqF, Nat.reduceAdd], fun j _ => by simp (disch := first | decide | omega | (simp (disch := first | decide | omega) only [sv_s, sv_o, ur_s, ur_e, ur_o]; omega)) only [↓reduceIte, iv_add, iv_sub, iv_mul, iv_neg, iv_ltT, iv_ltF, iv_leT, iv_leF, iv_eqT, iv_eqF, iv_div, iv_mod, ↓bnI_s, ↓bnV_s, ↓bnJ_s, ↓bnR_s, rt_e, rt_0, rt_bz, sv_s, sv_o, ur_s, ur_e, ur_o, bz_T, bz_F, nat_eqF, Nat.reduceAdd], fun j _ => by simp (disch := first | decide | omega | (simp (disch := first | decide | omega) only [sv_s, sv_o, ur_s, ur_e, ur_o]; omega)) only [↓reduceIte, iv_add, iv_sub, iv_mul, iv_neg, iv_ltT, iv_ltF, iv_leT, iv_leF, iv_eqT, iv_eqF, iv_div, iv_mod, ↓bnI_s, ↓bnV_s, ↓bnJ_s, ↓bnR_s, rt_e, rt_0, rt_bz, sv_s, sv_o, ur_s, ur_e, ur_o, bz_T, bz_F, nat_eqF, Nat.reduceAdd]⟩
theorem frQ.em {s : Sm} {p w : Int} {U : Vm} {o x : Int} (h2 : U 435 12 = sX s) (h3 : U 435 13 = w) (hw : 0 ≤ w ∧ w ≤ 303) : frQ s p w U (emM U o x) := by
  unfold emM
  rw [h2, h3]
  exact ((frQ.w38 (by omega)).tr (frQ.w38 (by omega)) (Int.le_refl _) (Int.le_refl _)).tr (frQ.w5 (by omega)) (Int.le_refl _) (Int.le_refl _)
theorem emM_5 {U : Vm} {o x k : Int} (h : k ≠ 13) : emM U o x 435 k = U 435 k := by unfold emM; simp (disch := first | decide | omega | (simp (disch := first | decide | omega) only [sv_s, sv_o, ur_s, ur_e, ur_o]; omega)) only [↓reduceIte, iv_add, iv_sub, iv_mul, iv_neg, iv_ltT, iv_ltF, iv_leT, iv_leF, iv_eqT, iv_eqF, iv_div, iv_mod, ↓bnI_s, ↓bnV_s, ↓bnJ_s, ↓bnR_s, rt_e, rt_0, rt_bz, sv_s, sv_o, ur_s, ur_e, ur_o, bz_T, bz_F, nat_eqF, Nat.reduceAdd]
theorem emM_13 {U : Vm} {o x : Int} : emM U o x 435 13 = U 435 13 + 1 := by unfold emM; simp (disch := first | decide | omega | (simp (disch := first | decide | omega) only [sv_s, sv_o, ur_s, ur_e, ur_o]; omega)) only [↓reduceIte, iv_add, iv_sub, iv_mul, iv_neg, iv_ltT, iv_ltF, iv_leT, iv_leF, iv_eqT, iv_eqF, iv_div, iv_mod, ↓bnI_s, ↓bnV_s, ↓bnJ_s, ↓bnR_s, rt_e, rt_0, rt_bz, sv_s, sv_o, ur_s, ur_e, ur_o, bz_T, bz_F, nat_eqF, Nat.reduceAdd]
theorem emM_o {U : Vm} {o x : Int} {a : Nat} (h1 : a ≠ 435) (h2 : a ≠ 438) : emM U o x a = U a := by unfold emM; simp (disch := first | decide | omega | (simp (disch := first | decide | omega) only [sv_s, sv_o, ur_s, ur_e, ur_o]; omega)) only [↓reduceIte, iv_add, iv_sub, iv_mul, iv_neg, iv_ltT, iv_ltF, iv_leT, iv_leF, iv_eqT, iv_eqF, iv_div, iv_mod, ↓bnI_s, ↓bnV_s, ↓bnJ_s, ↓bnR_s, rt_e, rt_0, rt_bz, sv_s, sv_o, ur_s, ur_e, ur_o, bz_T, bz_F, nat_eqF, Nat.reduceAdd]
theorem emM_c {U : Vm} {o x : Int} : emM U o x 438 (U 435 12 + 73 + 2 * U 435 13) = o ∧ emM U o x 438 (U 435 12 + 73 + 2 * U 435 13 + 1) = x := by
  unfold emM
  constructor
  · simp (disch := first | decide | omega | (simp (disch := first | decide | omega) only [sv_s, sv_o, ur_s, ur_e, ur_o]; omega)) only [↓reduceIte, iv_add, iv_sub, iv_mul, iv_neg, iv_ltT, iv_ltF, iv_leT, iv_leF, iv_eqT, iv_eqF, iv_div, iv_mod, ↓bnI_s, ↓bnV_s, ↓bnJ_s, ↓bnR_s, rt_e, rt_0, rt_bz, sv_s, sv_o, ur_s, ur_e, ur_o, bz_T, bz_F, nat_eqF, Nat.reduceAdd]
  · simp (disch := first | decide | omega | (simp (disch := first | decide | omega) only [sv_s, sv_o, ur_s, ur_e, ur_o]; omega)) only [↓reduceIte, iv_add, iv_sub, iv_mul, iv_neg, iv_ltT, iv_ltF, iv_leT, iv_leF, iv_eqT, iv_eqF, iv_div, iv_mod, ↓bnI_s, ↓bnV_s, ↓bnJ_s, ↓bnR_s, rt_e, rt_0, rt_bz, sv_s, sv_o, ur_s, ur_e, ur_o, bz_T, bz_F, nat_eqF, Nat.reduceAdd]
noncomputable def Lp (h : Mem) : Rs := rX m_M_summed m_M_summed 15 [.ref 435, dd] [] h
noncomputable def S7 (U K : Vm) (z : Zz) : Rs := bnV (cA m_M_settle [.ref 435, .int (iv 7)] (em U K z)) Lp
section
variable {U K : Vm} {z : Zz} {s : Sm} {i p d w : Int}
theorem l_begin (F : Fix z) (h18 : U 435 18 = 0) : Lp (em U K z) = bnI (cA m_M_beginOne [.ref 435] (em U K z)) fun x h => if x = 0 then Lp h else some (.int x, h) := by
  unfold Lp
  conv => lhs; rw [q_M_summed_15, gI_435_18 F, h18, if_pos (show iv 0 = 0 from rfl)]
theorem l_behind (F : Fix z) (h18 : U 435 18 = 1) : Lp (em U K z) = bnI (cA m_M_behindOne [.ref 435] (em U K z)) fun x h => if x = 0 then bnI (cA m_M_openNow [.ref 435] h) (fun y g => if (0 : Int32) ≤ y then some (.int 1, g) else bnV (cA m_M_settle [.ref 435, .int 1] g) fun q => some (.int 0, q)) else Lp h := by
  unfold Lp
  conv => lhs; rw [q_M_summed_15, gI_435_18 F, h18, if_neg (show ¬ iv 1 = 0 by decide)]
/-- behind the text of a number or a name -/
theorem l_65 (F : Fix z) (S : SO s) (P : Ps U K s i p d w) (hi : 0 ≤ i ∧ i < sM s) (hw : 0 ≤ w ∧ w ≤ 303) {o v x : Int} (hx : (U 435 9 = 1 ∧ v = U 435 10) ∨ (U 435 9 ≠ 1 ∧ v = x)) : ∃ U' K', (bnI (rX m_M_beginOne m_M_beginOne 65 [.ref 435, .int (iv x)] [.int (iv o), .ref 435] (em U K z)) fun x h => if x = 0 then Lp h else some (.int x, h)) = S7 U' K' z ∧ Ps U' K' s (i + 1) p d (w + 1) ∧ U' 435 18 = 1 ∧ frQ s p w U U' ∧ U' 438 (sX s + 73 + 2 * w) = o ∧ U' 438 (sX s + 73 + 2 * w + 1) = v := by
  obtain ⟨p1, p2, p3, p4, p5, p6⟩ := P
  have S2 := S.2.1
  have R : Rm U := ⟨by rw [p5]; exact S2, by rw [p4]; exact hw⟩
  have e := y_M_emit (K := K) F R (o := o) (x := v)
  have T1 : Mt (emM U o v) K s i := p1.c (emM_o (by decide) (by decide)) (fun k hk => emM_5 (by omega))
  obtain ⟨U2, K2, n1, n2, n3⟩ := T1.nextT F S hi
  have c := emM_c (U := U) (o := o) (x := v)
  rw [p5, p4] at c
  have f1 : frQ s p w U (emM U o v) := frQ.em p5 p4 hw
  refine ⟨sv U2 435 18 1, K2, ?_, ⟨n3.c (by simp (disch := first | decide | omega | (simp (disch := first | decide | omega) only [sv_s, sv_o, ur_s, ur_e, ur_o]; omega)) only [↓reduceIte, iv_add, iv_sub, iv_mul, iv_neg, iv_ltT, iv_ltF, iv_leT, iv_leF, iv_eqT, iv_eqF, iv_div, iv_mod, ↓bnI_s, ↓bnV_s, ↓bnJ_s, ↓bnR_s, rt_e, rt_0, rt_bz, sv_s, sv_o, ur_s, ur_e, ur_o, bz_T, bz_F, nat_eqF, Nat.reduceAdd]) (fun k hk => by simp (disch := first | decide | omega | (simp (disch := first | decide | omega) only [sv_s, sv_o, ur_s, ur_e, ur_o]; omega)) only [↓reduceIte, iv_add, iv_sub, iv_mul, iv_neg, iv_ltT, iv_ltF, iv_leT, iv_leF, iv_eqT, iv_eqF, iv_div, iv_mod, ↓bnI_s, ↓bnV_s, ↓bnJ_s, ↓bnR_s, rt_e, rt_0, rt_bz, sv_s, sv_o, ur_s, ur_e, ur_o, bz_T, bz_F, nat_eqF, Nat.reduceAdd]), ?_, ?_, ?_, ?_, ?_⟩, by simp (disch := first | decide | omega | (simp (disch := first | decide | omega) only [sv_s, sv_o, ur_s, ur_e, ur_o]; omega)) only [↓reduceIte, iv_add, iv_sub, iv_mul, iv_neg, iv_ltT, iv_ltF, iv_leT, iv_leF, iv_eqT, iv_eqF, iv_div, iv_mod, ↓bnI_s, ↓bnV_s, ↓bnJ_s, ↓bnR_s, rt_e, rt_0, rt_bz, sv_s, sv_o, ur_s, ur_e, ur_o, bz_T, bz_F, nat_eqF, Nat.reduceAdd], (f1.tr (frQ.of_n n2) (Int.le_refl _) (Int.le_refl _)).tr (frQ.w5 (by omega)) (Int.le_refl _) (Int.le_refl _), ?_, ?_⟩
  · unfold S7
    have fin : ∀ y : Rs, (bnI (bnV y fun h6 => some (Value.int (iv 0), h6)) fun x h => if x = 0 then Lp h else some (.int x, h)) = bnV y Lp := fun y => by
      rw [bn_IV]
      congr 1
    rw [← fin]
    congr 1
    rcases hx with ⟨h9, hv⟩ | ⟨h9, hv⟩
    · rw [hv] at e
      rw [hv] at n1
      generalize h10 : U 435 10 = y at *
      (rw [q_M_beginOne_65]; simp (disch := first | decide | omega | (simp (disch := first | decide | omega) only [sv_s, sv_o, ur_s, ur_e, ur_o]; omega)) only [↓reduceIte, iv_add, iv_sub, iv_mul, iv_neg, iv_ltT, iv_ltF, iv_leT, iv_leF, iv_eqT, iv_eqF, iv_div, iv_mod, ↓bnI_s, ↓bnV_s, ↓bnJ_s, ↓bnR_s, rt_e, rt_0, rt_bz, sv_s, sv_o, ur_s, ur_e, ur_o, bz_T, bz_F, nat_eqF, Nat.reduceAdd, ↓gI_435_9 F, ↓gI_435_10 F, ↓pI_435_18 F, il_0, il_1, il_7, il_9, il_10, il_11, il_18, il_65, h9, h10, e, n1])
    · rw [hv] at e
      rw [hv] at n1
      have h9' : U 435 9 < 1 ∨ 1 < U 435 9 := by omega
      have tr := p1.2.tt.rg.2
      generalize h9e : U 435 9 = t at *
      (rw [q_M_beginOne_65]; simp (disch := first | decide | omega | (simp (disch := first | decide | omega) only [sv_s, sv_o, ur_s, ur_e, ur_o]; omega)) only [↓reduceIte, iv_add, iv_sub, iv_mul, iv_neg, iv_ltT, iv_ltF, iv_leT, iv_leF, iv_eqT, iv_eqF, iv_div, iv_mod, ↓bnI_s, ↓bnV_s, ↓bnJ_s, ↓bnR_s, rt_e, rt_0, rt_bz, sv_s, sv_o, ur_s, ur_e, ur_o, bz_T, bz_F, nat_eqF, Nat.reduceAdd, ↓gI_435_9 F, ↓gI_435_10 F, ↓pI_435_18 F, il_0, il_1, il_7, il_9, il_10, il_11, il_18, il_65, h9e, e, n1])
  · simp (disch := first | decide | omega | (simp (disch := first | decide | omega) only [sv_s, sv_o, ur_s, ur_e, ur_o]; omega)) only [↓reduceIte, iv_add, iv_sub, iv_mul, iv_neg, iv_ltT, iv_ltF, iv_leT, iv_leF, iv_eqT, iv_eqF, iv_div, iv_mod, ↓bnI_s, ↓bnV_s, ↓bnJ_s, ↓bnR_s, rt_e, rt_0, rt_bz, sv_s, sv_o, ur_s, ur_e, ur_o, bz_T, bz_F, nat_eqF, Nat.reduceAdd, n2.2 16, emM_5 (U := U) (o := o) (x := v) (k := 16), p2]
  · simp (disch := first | decide | omega | (simp (disch := first | decide | omega) only [sv_s, sv_o, ur_s, ur_e, ur_o]; omega)) only [↓reduceIte, iv_add, iv_sub, iv_mul, iv_neg, iv_ltT, iv_ltF, iv_leT, iv_leF, iv_eqT, iv_eqF, iv_div, iv_mod, ↓bnI_s, ↓bnV_s, ↓bnJ_s, ↓bnR_s, rt_e, rt_0, rt_bz, sv_s, sv_o, ur_s, ur_e, ur_o, bz_T, bz_F, nat_eqF, Nat.reduceAdd, n2.2 17, emM_5 (U := U) (o := o) (x := v) (k := 17), p3]
  · simp (disch := first | decide | omega | (simp (disch := first | decide | omega) only [sv_s, sv_o, ur_s, ur_e, ur_o]; omega)) only [↓reduceIte, iv_add, iv_sub, iv_mul, iv_neg, iv_ltT, iv_ltF, iv_leT, iv_leF, iv_eqT, iv_eqF, iv_div, iv_mod, ↓bnI_s, ↓bnV_s, ↓bnJ_s, ↓bnR_s, rt_e, rt_0, rt_bz, sv_s, sv_o, ur_s, ur_e, ur_o, bz_T, bz_F, nat_eqF, Nat.reduceAdd, n2.2 13, emM_13 (U := U) (o := o) (x := v), p4]
  · simp (disch := first | decide | omega | (simp (disch := first | decide | omega) only [sv_s, sv_o, ur_s, ur_e, ur_o]; omega)) only [↓reduceIte, iv_add, iv_sub, iv_mul, iv_neg, iv_ltT, iv_ltF, iv_leT, iv_leF, iv_eqT, iv_eqF, iv_div, iv_mod, ↓bnI_s, ↓bnV_s, ↓bnJ_s, ↓bnR_s, rt_e, rt_0, rt_bz, sv_s, sv_o, ur_s, ur_e, ur_o, bz_T, bz_F, nat_eqF, Nat.reduceAdd, n2.2 12, emM_5 (U := U) (o := o) (x := v) (k := 12), p5]
  · simp (disch := first | decide | omega | (simp (disch := first | decide | omega) only [sv_s, sv_o, ur_s, ur_e, ur_o]; omega)) only [↓reduceIte, iv_add, iv_sub, iv_mul, iv_neg, iv_ltT, iv_ltF, iv_leT, iv_leF, iv_eqT, iv_eqF, iv_div, iv_mod, ↓bnI_s, ↓bnV_s, ↓bnJ_s, ↓bnR_s, rt_e, rt_0, rt_bz, sv_s, sv_o, ur_s, ur_e, ur_o, bz_T, bz_F, nat_eqF, Nat.reduceAdd, n2.2 14, emM_5 (U := U) (o := o) (x := v) (k := 14), p6]
  · simp (disch := first | decide | omega | (simp (disch := first | decide | omega) only [sv_s, sv_o, ur_s, ur_e, ur_o]; omega)) only [↓reduceIte, iv_add, iv_sub, iv_mul, iv_neg, iv_ltT, iv_ltF, iv_leT, iv_leF, iv_eqT, iv_eqF, iv_div, iv_mod, ↓bnI_s, ↓bnV_s, ↓bnJ_s, ↓bnR_s, rt_e, rt_0, rt_bz, sv_s, sv_o, ur_s, ur_e, ur_o, bz_T, bz_F, nat_eqF, Nat.reduceAdd, n2.1 438, c.1]
  · simp (disch := first | decide | omega | (simp (disch := first | decide | omega) only [sv_s, sv_o, ur_s, ur_e, ur_o]; omega)) only [↓reduceIte, iv_add, iv_sub, iv_mul, iv_neg, iv_ltT, iv_ltF, iv_leT, iv_leF, iv_eqT, iv_eqF, iv_div, iv_mod, ↓bnI_s, ↓bnV_s, ↓bnJ_s, ↓bnR_s, rt_e, rt_0, rt_bz, sv_s, sv_o, ur_s, ur_e, ur_o, bz_T, bz_F, nat_eqF, Nat.reduceAdd, n2.1 438, c.2]
end
