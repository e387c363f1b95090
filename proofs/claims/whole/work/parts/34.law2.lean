/-! the law's start with its ints -/
def chk2 (o : Option TS) : Bool := match o with
  | some T => chkS (some T) && chkI (some T)
  | none => false
theorem chk2_of {o : Option TS} (a : chkS o = true) (c : chkI o = true) : chk2 o = true := by
  cases o with
  | none => cases a
  | some T => show (chkS (some T) && chkI (some T)) = true; rw [a, c]; rfl
theorem law_start_g2 {L : Nat} {xs : Nat → Int32} {o : Option TS} (k1 : OkO (h0 L xs) (cA m_X_new [.ref 8] (mk (h0 L xs) 26 9)) o) (c : chk2 (o.bind fun T => tM (tN T) (tA T 27 39)) = true) (cx : chkX o = true) : ∃ T h', chk2 (some T) = true ∧ Rep (h0 L xs) h' T ∧ cA m_Law_law [.ref 6] (h0 L xs) = rX m_Law_law m_Law_law 18 [.ref 6, .ref 8, .ref 435, .int 0] [] h' := by
  cases o with
  | none => cases c
  | some T1 =>
    obtain ⟨h1, f1, r1⟩ := k1 T1 rfl
    have n1 : tN T1 = 435 := Nat.eq_of_beq_eq_true cx
    have kS := (k_obj r1 (k := 27) (n := 39)).1
    rw [n1] at kS
    have k2 := k_M (rep_mk r1 27 39) (x := 435) (by decide) kS
    rw [ob_some] at c
    rw [n1] at c
    cases e2 : tM 435 (tA T1 27 39) with
    | none => rw [e2] at c; cases c
    | some T2 =>
      obtain ⟨h2, f2, r2⟩ := k2 T2 e2
      rw [e2] at c
      refine ⟨T2, h2, c, r2, ?_⟩
      have f1' : cA m_X_new [.ref (mN (h0 L xs))] (mk (h0 L xs) (16 + 10) 9) = some (.null, h1) := f1
      rw [q_Law_law, f1', bnV_s, r1.N, n1]
      have f2' : cA m_M_new [.ref 435] (mk h1 (16 + 11) 39) = some (.null, h2) := f2
      rw [f2', bnV_s]
      rfl
theorem law_start2 (L : Nat) (xs : Nat → Int32) : ∃ T h', chk2 (some T) = true ∧ Rep (h0 L xs) h' T ∧ cA m_Law_law [.ref 6] (h0 L xs) = rX m_Law_law m_Law_law 18 [.ref 6, .ref 8, .ref 435, .int 0] [] h' := by
  have r0 : Rep (h0 L xs) (h0 L xs) ([], 0) := ⟨rfl, rfl, fun a _ => ⟨rfl, rfl, rfl⟩, fun a h1 h2 => absurd h2 (Nat.not_lt.mpr h1)⟩
  exact law_start_g2 (k_X (rep_mk r0 26 9) (x := 8) (by decide) rfl) (chk2_of start_chk start_chkI) start_chkX
