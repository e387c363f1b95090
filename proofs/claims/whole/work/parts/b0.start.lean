/-! THE FIRST STATE -/
def chkM (o : Option TS) : Bool := match o with
  | some T => (List.range 125).all fun k => decide ((tG T 432).2.2.2 k = mkd k)
  | none => false
set_option maxRecDepth 100000 in
theorem start_chkM : chkM ((tX 8 (tA ([], 0) 26 9)).bind fun T => tM (tN T) (tA T 27 39)) = true := by decide +kernel
def chk3 (o : Option TS) : Bool := match o with
  | some T => chk2 (some T) && chkM (some T)
  | none => false
theorem chk3_of {o : Option TS} (a : chk2 o = true) (c : chkM o = true) : chk3 o = true := by
  cases o with
  | none => cases a
  | some W => show (chk2 (some W) && chkM (some W)) = true; rw [a, c]; rfl
theorem law_start_g3 {L : Nat} {xs : Nat → Int32} {o : Option TS} (k1 : OkO (h0 L xs) (cA m_X_new [.ref 8] (mk (h0 L xs) 26 9)) o) (c : chk3 (o.bind fun T => tM (tN T) (tA T 27 39)) = true) (cx : chkX o = true) : ∃ T h', chk3 (some T) = true ∧ Rep (h0 L xs) h' T ∧ cA m_Law_law [.ref 6] (h0 L xs) = rX m_Law_law m_Law_law 18 [.ref 6, .ref 8, .ref 435, .int 0] [] h' := by
  cases o with
  | none => cases c
  | some T1 =>
    obtain ⟨h1, f1, r1⟩ := k1 T1 rfl
    have n1 : tN T1 = 435 := Nat.eq_of_beq_eq_true cx
    have kS := (k_obj r1 (k := 27) (n := 39)).1
    rw [n1] at kS
    have k2 := k_M (rep_mk r1 27 39) (x := 435) (by decide) kS
    rw [ob_some] at c
    rw [n1] at c
    cases e2 : tM 435 (tA T1 27 39) with
    | none => rw [e2] at c; cases c
    | some T2 =>
      obtain ⟨h2, f2, r2⟩ := k2 T2 e2
      rw [e2] at c
      refine ⟨T2, h2, c, r2, ?_⟩
      have f1' : cA m_X_new [.ref (mN (h0 L xs))] (mk (h0 L xs) (16 + 10) 9) = some (.null, h1) := f1
      rw [q_Law_law, f1', bnV_s, r1.N, n1]
      have f2' : cA m_M_new [.ref 435] (mk h1 (16 + 11) 39) = some (.null, h2) := f2
      rw [f2', bnV_s]
      rfl
theorem law_start3 (L : Nat) (xs : Nat → Int32) : ∃ T h', chk3 (some T) = true ∧ Rep (h0 L xs) h' T ∧ cA m_Law_law [.ref 6] (h0 L xs) = rX m_Law_law m_Law_law 18 [.ref 6, .ref 8, .ref 435, .int 0] [] h' := by
  have r0 : Rep (h0 L xs) (h0 L xs) ([], 0) := ⟨rfl, rfl, fun a _ => ⟨rfl, rfl, rfl⟩, fun a h1 h2 => absurd h2 (Nat.not_lt.mpr h1)⟩
  exact law_start_g3 (k_X (rep_mk r0 26 9) (x := 8) (by decide) rfl) (chk3_of (chk2_of start_chk start_chkI) start_chkM) start_chkX
theorem start_ref {T : TS} (c : chkS (some T) = true) : ∀ a, 8 ≤ a → a < 451 → ∀ k, k < 40 → (tG T a).2.2.1 k = R0 a k := by
  unfold chkS at c
  simp only [Bool.and_eq_true, decide_eq_true_eq] at c
  obtain ⟨⟨⟨c1, c2⟩, c3⟩, c4⟩ := c
  intro a h8 ha k hk
  have q := getD_map' (fun e : TE => (List.range 40).map e.2.2.1) T.1 (a - 8) (bl 0 0)
  rw [c2] at q
  have q2 := getD_map' (fun l : List Nat => (List.range 40).map fun k => l.getD k 0) (tbR.drop 8) (a - 8) []
  rw [getD_drop8 _ _ h8] at q2
  exact map_rg (q.symm.trans q2) hk
theorem start_int {T : TS} (c : chkI (some T) = true) (n : T.1.length = 443) : ∀ a, 8 ≤ a → a < 451 → ∀ k, k < i0N a → (tG T a).2.2.2 k = i0V a k := by
  intro a h8 ha k hk
  have c : (T.1.zipIdx.all fun q => (List.range (i0N (q.2 + 8))).all fun k => decide (q.1.2.2.2 k = i0V (q.2 + 8) k)) = true := c
  have hl : a - 8 < T.1.length := by omega
  have mem : (T.1[a - 8], a - 8) ∈ T.1.zipIdx := by
    rw [List.mem_zipIdx_iff_getElem?]
    exact List.getElem?_eq_getElem hl
  have q := List.all_eq_true.mp (List.all_eq_true.mp c _ mem) k (List.mem_range.mpr (by show k < i0N (a - 8 + 8); rw [show a - 8 + 8 = a by omega]; exact hk))
  have q : (T.1[a - 8]).2.2.2 k = i0V (a - 8 + 8) k := of_decide_eq_true q
  rw [show a - 8 + 8 = a by omega] at q
  have e : tG T a = T.1[a - 8] := by
    unfold tG
    rw [List.getD_eq_getElem?_getD, List.getElem?_eq_getElem hl]
    rfl
  rw [e]
  exact q
theorem zA : ∀ n, n < 150 → n ≠ 8 → n ≠ 2 → (i0V 436 n).toInt = 0 ∧ (i0V 437 n).toInt = 0 := by decide +kernel
theorem zR : ∀ n, n < 40 → (i0V 18 n).toInt = 0 ∧ (i0V 19 n).toInt = 0 ∧ (i0V 20 n).toInt = 0 ∧ (i0V 219 n).toInt = 0 ∧ (i0V 220 n).toInt = 0 ∧ (i0V 221 n).toInt = 0 := by decide +kernel
theorem zM : (i0V 436 8).toInt = 421 ∧ (i0V 437 8).toInt = 421 ∧ (i0V 436 2).toInt = -1 ∧ (i0V 437 2).toInt = -1 ∧ (i0V 9 12).toInt = -1 ∧ (i0V 210 12).toInt = -1 ∧ (i0V 10 8).toInt = 421 ∧ (i0V 211 8).toInt = 421 ∧ (i0V 424 9).toInt = -1 ∧ (i0V 424 10).toInt = -1 ∧ (i0V 435 5).toInt = -1 ∧ (i0V 435 6).toInt = -1 ∧ (i0V 435 23).toInt = 1 ∧ (i0V 435 4).toInt = 0 ∧ (i0V 419 1).toInt = 0 := by decide +kernel
/-- a blank house -/
theorem HR_0 {V : Vm} {z : Zz} {H : Nat} {A : Int → Int} (a0 : ∀ k, 0 ≤ k → k < 150 → k ≠ 8 → k ≠ 2 → A k = 0) (a8 : A 8 = 421) (a2 : A 2 = -1) (t : ∀ k, 0 ≤ k → k < 12 → k ≠ 8 → V (H + 1) k = 0) (t8 : V (H + 1) 8 = 421) (h : ∀ k, 0 ≤ k → k < 12 → V H k = 0) (h12 : V H 12 = -1) (r : ∀ b, b = 9 ∨ b = 10 ∨ b = 11 → ∀ k, 0 ≤ k → k < 40 → V (H + b) k = 0) (p : ∀ b, b = 12 ∨ b = 15 ∨ b = 18 → V (H + b) 2 = 0) : HR TXR V z H A := by
  have e0 := a0 0 (by omega) (by omega) (by omega) (by omega)
  have e1 := a0 1 (by omega) (by omega) (by omega) (by omega)
  have e3 := a0 3 (by omega) (by omega) (by omega) (by omega)
  have e4 := a0 4 (by omega) (by omega) (by omega) (by omega)
  have e5 := a0 5 (by omega) (by omega) (by omega) (by omega)
  have e6 := a0 6 (by omega) (by omega) (by omega) (by omega)
  have e7 := a0 7 (by omega) (by omega) (by omega) (by omega)
  have e9 := a0 9 (by omega) (by omega) (by omega) (by omega)
  have e10 := a0 10 (by omega) (by omega) (by omega) (by omega)
  have t5 := t 5 (by omega) (by omega) (by omega)
  have t6 := t 6 (by omega) (by omega) (by omega)
  have t7 := t 7 (by omega) (by omega) (by omega)
  have t9 := t 9 (by omega) (by omega) (by omega)
  have h9 := h 9 (by omega) (by omega)
  have h10 := h 10 (by omega) (by omega)
  have h11 := h 11 (by omega) (by omega)
  refine ⟨⟨by omega, by omega, fun k k0 k1 => absurd k1 (by omega), fun k k0 k1 => absurd k1 (by omega), fun s s0 s1 => absurd s1 (by omega), by omega, by omega, by omega, by omega, fun i i0 i1 => absurd i1 (by omega)⟩, ⟨by omega, by omega, by omega, fun i i0 i1 => absurd i1 (by omega)⟩, fun k k0 k1 => ?_, fun k k0 k1 => ?_, fun k k0 k1 => ?_, ⟨(p 12 (by omega)).trans e4.symm, by omega, fun i i0 i1 => absurd i1 (by omega)⟩, ⟨(p 15 (by omega)).trans e5.symm, by omega, fun i i0 i1 => absurd i1 (by omega)⟩, ⟨(p 18 (by omega)).trans e6.symm, by omega, fun i i0 i1 => absurd i1 (by omega)⟩, ⟨by omega, by omega, by omega, by omega, fun i i0 i1 => absurd i1 (by omega)⟩⟩
  · have q1 := a0 (35 + k) (by omega) (by omega) (by omega) (by omega)
    have q2 := a0 (35 + (6 * (k % 6) + k / 6)) (by omega) (by omega) (by omega) (by omega)
    have q3 := r 9 (by omega) k k0 (by omega)
    omega
  · have q1 := a0 (71 + k) (by omega) (by omega) (by omega) (by omega)
    have q3 := r 10 (by omega) k k0 (by omega)
    omega
  · have q1 := a0 (125 + k) (by omega) (by omega) (by omega) (by omega)
    have q3 := r 11 (by omega) k k0 (by omega)
    omega
