/-! THE LAW, ALL CALLS -/
def NxtR (L : Nat) (xs : Nat → Int32) (z : Zz) (j : Int) (r : Rs) : Prop := ∃ V2 J2 z2, r = rX m_Law_law m_Law_law 18 [.ref 6, .ref 8, .ref 435, .int (iv (j + 6))] [] (em V2 J2 z2) ∧ Stt xs V2 z2 ∧ Rg L xs (em V2 J2 z2) ∧ z2.2.2.1 ≤ z.2.2.1 + 3 ∧ z2.2.2.2 ≤ z.2.2.2 + 1000
section
variable {V J : Vm} {z : Zz} {L : Nat} {xs : Nat → Int32} {h : Mem} {j : Int}
theorem NxtR_if {c : Prop} [Decidable c] {a b : Rs} (ha : NxtR L xs z j a) (hb : NxtR L xs z j b) : NxtR L xs z j (if c then a else b) := by
  by_cases q : c
  · rw [if_pos q]; exact ha
  · rw [if_neg q]; exact hb
theorem NxtR_on (S : Stt xs V z) (R : Rg L xs (em V J z)) : NxtR L xs z j (rX m_Law_law m_Law_law 1668 [.ref 6, .ref 8, .ref 435, .int (iv j)] [] (em V J z)) := ⟨V, J, z, n_on, S, R, by omega, by omega⟩
theorem alN6 (R : Rg L xs h) {f : Int32 → Rs} : alN h 6 f = f (iv L) := by
  have e : alN h 6 f = f (Int32.ofNat (mS h 6).2) := if_pos (by rw [R.2.1]; rfl)
  rw [e, R.2.1, show Int32.ofNat L = iv L from (Int32.ofInt_eq_ofNat).symm]
theorem n_18 (S : Stt xs V z) (R : Rg L xs (em V J z)) (hL : L ≤ 3072) (hj : 0 ≤ j ∧ j + 6 ≤ L) : NxtR L xs z j (rX m_Law_law m_Law_law 18 [.ref 6, .ref 8, .ref 435, .int (iv j)] [] (em V J z)) := by
  have le : iv j ≤ iv ((L : Int) - 6) := of_eq_true (iv_leT (a := j) (b := (L : Int) - 6) (by omega))
  rw [q_Law_law_18, alN6 R, show (6 : Int32) = iv 6 from rfl, iv_sub, if_pos le, ldS R hL (by omega) (by omega)]
  exact NxtR_if (n_kin S R hL hj) (NxtR_if (n_feed S R hL hj) (NxtR_if (n_end S R hL hj) (NxtR_if (n_text S R hL hj) (NxtR_if (n_fault S R hL hj) (NxtR_if (n_by S R hL hj) (NxtR_if (n_reach S R hL hj) (NxtR_if (n_down S R hL hj) (NxtR_if (n_strap S R hL hj) (NxtR_if (n_swap S R hL hj) (NxtR_if (n_dinner S R hL hj) (NxtR_if (n_played S R hL hj) (NxtR_if (n_years S R hL hj) (NxtR_if (n_undo S R hL hj) (NxtR_if (n_of S R hL hj) (NxtR_if (n_at S R hL hj) (NxtR_if (n_is S R hL hj) (NxtR_if (n_book S R hL hj) (NxtR_if (n_foretold S R hL hj) (NxtR_if (n_spite S R hL hj) (NxtR_if (n_round S R hL hj) (NxtR_if (n_seating S R hL hj) (NxtR_if (n_seatings S R hL hj) (NxtR_if (n_spiteNow S R hL hj) (NxtR_if (n_mend S R hL hj) (NxtR_if (n_hedge S R hL hj) (NxtR_if (n_flight S R hL hj) (NxtR_if (n_comes S R hL hj) (NxtR_if (n_guess S R hL hj) (NxtR_if (n_answer S R hL hj) (NxtR_if (n_fits S R hL hj) (NxtR_if (n_fit S R hL hj) (NxtR_if (n_ask S R hL hj) (NxtR_if (n_gain S R hL hj) (NxtR_if (n_rests S R hL hj) (NxtR_if (n_mixed S R hL hj) (NxtR_if (n_saying S R hL hj) (NxtR_if (n_least S R hL hj) (NxtR_if (n_near S R hL hj) (NxtR_if (n_game S R hL hj) (NxtR_if (n_bite S R hL hj) (NxtR_if (n_told S R hL hj) (NxtR_if (n_whose S R hL hj) (NxtR_if (n_fullest S R hL hj) (NxtR_if (n_calm S R hL hj) (NxtR_if (n_ledger S R hL hj) (NxtR_if (n_image S R hL hj) (NxtR_if (n_back S R hL hj) (NxtR_if (n_about S R hL hj) (NxtR_on S R)))))))))))))))))))))))))))))))))))))))))))))))))
theorem n_fin (R : Rg L xs (em V J z)) (hL : L ≤ 3072) (hj : 0 ≤ j ∧ ¬ j + 6 ≤ L ∧ j ≤ 4000) : rX m_Law_law m_Law_law 18 [.ref 6, .ref 8, .ref 435, .int (iv j)] [] (em V J z) = some (.int 1, em V J z) := by
  have le : ¬ iv j ≤ iv ((L : Int) - 6) := of_eq_false (iv_leF (a := j) (b := (L : Int) - 6) (by omega))
  rw [q_Law_law_18, alN6 R, show (6 : Int32) = iv 6 from rfl, iv_sub, if_neg le]
  rfl
theorem n_all (hL : L ≤ 3072) : ∀ (m : Nat) (V J : Vm) (z : Zz) (j : Int), Stt xs V z → Rg L xs (em V J z) → 0 ≤ j → j ≤ 3080 → (L : Int) ≤ j + 6 * m → ∃ h', rX m_Law_law m_Law_law 18 [.ref 6, .ref 8, .ref 435, .int (iv j)] [] (em V J z) = some (.int 1, h') ∧ mN h' ≤ z.2.2.1 + 3 * m ∧ mC h' ≤ z.2.2.2 + 1000 * m := by
  intro m
  induction m with
  | zero =>
    intro V J z j S R j0 j1 hm
    exact ⟨em V J z, n_fin R hL (by omega), by show z.2.2.1 ≤ _; omega, by show z.2.2.2 ≤ _; omega⟩
  | succ m ih =>
    intro V J z j S R j0 j1 hm
    by_cases c : j + 6 ≤ L
    · obtain ⟨V2, J2, z2, e1, S2, R2, n2, c2⟩ := n_18 S R hL ⟨j0, c⟩
      obtain ⟨h', f1, f2, f3⟩ := ih V2 J2 z2 (j + 6) S2 R2 (by omega) (by omega) (by omega)
      exact ⟨h', e1.trans f1, by omega, by omega⟩
    · exact ⟨em V J z, n_fin R hL (by omega), by show z.2.2.1 ≤ _; omega, by show z.2.2.2 ≤ _; omega⟩
end
