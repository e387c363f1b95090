/-! A FLIGHT in the model -/
/-- how many of the first n cells are 0 -/
def cz (A : Int → Int) : Nat → Nat
  | 0 => 0
  | n + 1 => cz A n + (if A n = 0 then 1 else 0)
theorem cz_le (A : Int → Int) : ∀ n, cz A n ≤ n := by
  intro n
  induction n with
  | zero => exact Nat.le_refl 0
  | succ n ih => show cz A n + (if A n = 0 then 1 else 0) ≤ n + 1; split <;> omega
theorem cz_same {A B : Int → Int} : ∀ n : Nat, (∀ k : Nat, k < n → A k = B k) → cz A n = cz B n := by
  intro n
  induction n with
  | zero => intro _; rfl
  | succ n ih => intro h; show cz A n + _ = cz B n + _; rw [ih (fun k hk => h k (by omega)), h n (by omega)]
theorem cz_ur {A : Int → Int} : ∀ (n a : Nat), a < n → A a = 0 → cz (ur A a 1) n + 1 = cz A n := by
  intro n
  induction n with
  | zero => intro a h; omega
  | succ n ih =>
    intro a h h0
    show cz (ur A a 1) n + (if ur A a 1 n = 0 then 1 else 0) + 1 = cz A n + (if A n = 0 then 1 else 0)
    by_cases q : a = n
    · subst q
      rw [ur_s, if_neg (by decide), if_pos h0, cz_same (B := A) a (fun k hk => ur_o (by omega))]
    · rw [ur_o (by omega), ← ih a (by omega) h0]
      omega
theorem cz_0 {A : Int → Int} : ∀ n : Nat, cz A n = 0 → ∀ k : Nat, k < n → A k ≠ 0 := by
  intro n
  induction n with
  | zero => intro _ k h; omega
  | succ n ih =>
    intro h k hk
    have h : cz A n + (if A n = 0 then 1 else 0) = 0 := h
    by_cases q : A n = 0
    · rw [if_pos q] at h; omega
    · by_cases e : k = n
      · rw [e]; exact q
      · exact ih (by omega) k (by omega)
theorem cz_all {A : Int → Int} : ∀ n : Nat, (∀ k : Nat, k < n → A k = 0) → cz A n = n := by
  intro n
  induction n with
  | zero => intro _; rfl
  | succ n ih => intro h; show cz A n + (if A n = 0 then 1 else 0) = n + 1; rw [ih (fun k hk => h k (by omega)), if_pos (h n (by omega))]
section
variable {V J : Vm} {z : Zz}
theorem y_flown_0 (F : Fix z) {c w : Int} : ∀ (m i : Nat) (V : Vm), i + m = 144 → (∀ k, 0 ≤ k → k < (i : Int) → V 447 k = 0) → ∃ V', (∀ a, a ≠ 447 → V' a = V a) ∧ (∀ k, 0 ≤ k → k < 144 → V' 447 k = 0) ∧ rX m_M_isFlown m_M_isFlown 2 [.ref 435, .int (iv c), .int (iv w), .int (iv i)] [] (em V J z) = rX m_M_isFlown m_M_isFlown 2 [.ref 435, .int (iv c), .int (iv w), .int (iv 144)] [] (em V' J z) := by
  intro m
  induction m with
  | zero =>
    intro i V hi h
    refine ⟨V, fun _ _ => rfl, fun k h0 h1 => h k h0 (by omega), ?_⟩
    rw [show (i : Int) = 144 by omega]
  | succ m ih =>
    intro i V hi h
    obtain ⟨V', f1, f2, f3⟩ := ih (i + 1) (sv V 447 i 0) (by omega) (fun k h0 h1 => by
      rw [sv_s]
      by_cases q : k = i
      · rw [q, ur_s]
      · rw [ur_o q]; exact h k h0 (by omega))
    refine ⟨V', fun a ha => (f1 a ha).trans (sv_o ha), f2, ?_⟩
    rw [← f3]
    (rw [q_M_isFlown_2]; simp (disch := first | decide | omega | (simp (disch := first | decide | omega) only [sv_s, sv_o, ur_s, ur_e, ur_o]; omega)) only [↓reduceIte, iv_add, iv_sub, iv_mul, iv_neg, iv_ltT, iv_ltF, iv_leT, iv_leF, iv_eqT, iv_eqF, iv_div, iv_mod, ↓bnI_s, ↓bnV_s, ↓bnJ_s, ↓bnR_s, rt_e, rt_0, rt_bz, sv_s, sv_o, ur_s, ur_e, ur_o, bz_T, bz_F, nat_eqF, ↓gR_435_31 F, ↓pI_435_32 F, ↓pI_435_33 F, ↓pI_435_34 F, ↓pI_435_35 F, ↓sI_436 F, ↓sI_437 F, ↓sI_438 F, ↓sI_439 F, ↓sI_440 F, ↓sI_441 F, ↓sI_443 F, ↓sI_444 F, ↓sI_445 F, ↓sI_446 F, ↓sI_447 F, ↓sI_448 F, ↓sI_449 F, ↓sI_450 F, il_0, il_1, il_2, il_11, il_31, il_32, il_33, il_34, il_35, il_42, il_144, Int.natCast_add, Int.natCast_one])
/-- the marks of the arrivals so far -/
def mks (A D : Int → Int) (c w : Int) (i : Nat) : Prop := (∀ a, 0 ≤ a → a < 144 → A a = 0 ∨ A a = 1) ∧ (∀ l, l < i → A (arr D c w l) = 1) ∧ (∀ a, 0 ≤ a → a < 144 → A a = 1 → ∃ l, l < i ∧ arr D c w l = a) ∧ cz A 144 + i = 144
theorem y_flown_l (F : Fix z) {D : Int → Int} {c w : Int} (h : HD D) (hc : 0 ≤ c ∧ c < 36) (hw : 0 ≤ w ∧ w < 4) : ∀ (m i : Nat) (V : Vm), i + m = 145 → (∀ k, 0 ≤ k → k < 36 → V 436 (71 + k) = D k) → V 435 32 = i → V 435 33 = (fs D c w i).1 → V 435 34 = (fs D c w i).2.2 → V 435 35 = (fs D c w i).2.1 → (∀ l, l < i → go D c w l) → mks (V 447) D c w i →
    ∃ V', (∀ a, a ≠ 435 → a ≠ 447 → V' a = V a) ∧ (∀ k, k < 32 → V' 435 k = V 435 k) ∧ ((∃ N, fin D c w N ∧ V' 435 32 = (fe D c w N).1 ∧ V' 435 33 = (fe D c w N).2.1 ∧ V' 435 34 = (fe D c w N).2.2.1 ∧ V' 435 35 = (fe D c w N).2.2.2 ∧ rX m_M_isFlown m_M_isFlown 42 [.ref 435, dd, dd, dd] [] (em V J z) = some (.int (iv 1), em V' J z)) ∨ ((∀ l, go D c w l) ∧ rX m_M_isFlown m_M_isFlown 42 [.ref 435, dd, dd, dd] [] (em V J z) = some (.int (iv 0), em V' J z))) := by
  intro m
  induction m with
  | zero =>
    intro i V hi hD h0 h1 h2 h3 hg hm
    have := hm.2.2.2
    omega
  | succ m ih =>
    intro i V hi hD h0 h1 h2 h3 hg hm
    obtain ⟨a1, a2, a3⟩ := fs_rg h hc hw i hg
    rw [← h1] at a1
    rw [← h3] at a2
    rw [← h2] at a3
    have en : fn D c w i = nb (V 435 33) (V 435 35) := by unfold fn; rw [h1, h3]
    by_cases q : nb (V 435 33) (V 435 35) = -1
    · refine ⟨V, fun _ _ _ => rfl, fun _ _ => rfl, Or.inl ⟨i, ⟨by omega, hg, fun g => g.1 (en.trans q)⟩, ?_, ?_, ?_, ?_, ?_⟩⟩
      · unfold fe; rw [if_pos (en.trans q)]; exact h0
      · unfold fe; rw [if_pos (en.trans q)]; exact h1
      · unfold fe; rw [if_pos (en.trans q)]; exact h2
      · unfold fe; rw [if_pos (en.trans q)]; exact h3
      · (rw [q_M_isFlown_42]; simp (disch := first | decide | omega | (simp (disch := first | decide | omega) only [sv_s, sv_o, ur_s, ur_e, ur_o]; omega)) only [↓reduceIte, iv_add, iv_sub, iv_mul, iv_neg, iv_ltT, iv_ltF, iv_leT, iv_leF, iv_eqT, iv_eqF, iv_div, iv_mod, ↓bnI_s, ↓bnV_s, ↓bnJ_s, ↓bnR_s, rt_e, rt_0, rt_bz, sv_s, sv_o, ur_s, ur_e, ur_o, bz_T, bz_F, nat_eqF, ↓gI_435_33 F, ↓gI_435_35 F, ↓gI_435_32 F, ↓gR_435_31 F, ↓gR_435_0 F, ↓gI_435_34 F, ↓pI_435_33 F, ↓pI_435_32 F, ↓pI_435_34 F, ↓pI_435_35 F, ↓lI_436 F, ↓lI_437 F, ↓lI_438 F, ↓lI_439 F, ↓lI_440 F, ↓lI_441 F, ↓lI_443 F, ↓lI_444 F, ↓lI_445 F, ↓lI_446 F, ↓lI_447 F, ↓lI_448 F, ↓lI_449 F, ↓lI_450 F, ↓sI_436 F, ↓sI_437 F, ↓sI_438 F, ↓sI_439 F, ↓sI_440 F, ↓sI_441 F, ↓sI_443 F, ↓sI_444 F, ↓sI_445 F, ↓sI_446 F, ↓sI_447 F, ↓sI_448 F, ↓sI_449 F, ↓sI_450 F, il_0, il_1, il_3, il_4, il_11, il_31, il_32, il_33, il_34, il_35, il_42, il_71, y_nextBy, q])
    · have n0 := (nb_rg (w := V 435 35) a1).resolve_left q
      have ea : arr D c w i = 4 * nb (V 435 33) (V 435 35) + V 435 35 := by unfold arr; rw [en, h3]
      have hs := h _ n0.1 n0.2
      have hDn := hD _ n0.1 n0.2
      rcases hm.1 (4 * nb (V 435 33) (V 435 35) + V 435 35) (by omega) (by omega) with hA | hA
      · -- not yet come to
        by_cases q3 : D (nb (V 435 33) (V 435 35)) = 3
        · refine ⟨sv (sv (sv V 435 33 (nb (V 435 33) (V 435 35))) 435 32 (V 435 32 + 1)) 447 (4 * nb (V 435 33) (V 435 35) + V 435 35) 1, fun a ha hb => by rw [sv_o hb, sv_o ha, sv_o ha], fun k hk => by simp (disch := first | decide | omega | (simp (disch := first | decide | omega) only [sv_s, sv_o, ur_s, ur_e, ur_o]; omega)) only [↓reduceIte, iv_add, iv_sub, iv_mul, iv_neg, iv_ltT, iv_ltF, iv_leT, iv_leF, iv_eqT, iv_eqF, iv_div, iv_mod, ↓bnI_s, ↓bnV_s, ↓bnJ_s, ↓bnR_s, rt_e, rt_0, rt_bz, sv_s, sv_o, ur_s, ur_e, ur_o, bz_T, bz_F, nat_eqF], Or.inl ⟨i, ⟨by omega, hg, fun g => g.2 (by rw [en]; exact q3)⟩, ?_, ?_, ?_, ?_, ?_⟩⟩
          · unfold fe; rw [if_neg (by rw [en]; exact q)]; simp (disch := first | decide | omega | (simp (disch := first | decide | omega) only [sv_s, sv_o, ur_s, ur_e, ur_o]; omega)) only [↓reduceIte, iv_add, iv_sub, iv_mul, iv_neg, iv_ltT, iv_ltF, iv_leT, iv_leF, iv_eqT, iv_eqF, iv_div, iv_mod, ↓bnI_s, ↓bnV_s, ↓bnJ_s, ↓bnR_s, rt_e, rt_0, rt_bz, sv_s, sv_o, ur_s, ur_e, ur_o, bz_T, bz_F, nat_eqF]; exact congrArg (· + 1) h0
          · unfold fe; rw [if_neg (by rw [en]; exact q)]; simp (disch := first | decide | omega | (simp (disch := first | decide | omega) only [sv_s, sv_o, ur_s, ur_e, ur_o]; omega)) only [↓reduceIte, iv_add, iv_sub, iv_mul, iv_neg, iv_ltT, iv_ltF, iv_leT, iv_leF, iv_eqT, iv_eqF, iv_div, iv_mod, ↓bnI_s, ↓bnV_s, ↓bnJ_s, ↓bnR_s, rt_e, rt_0, rt_bz, sv_s, sv_o, ur_s, ur_e, ur_o, bz_T, bz_F, nat_eqF]; exact en.symm
          · unfold fe; rw [if_neg (by rw [en]; exact q)]; simp (disch := first | decide | omega | (simp (disch := first | decide | omega) only [sv_s, sv_o, ur_s, ur_e, ur_o]; omega)) only [↓reduceIte, iv_add, iv_sub, iv_mul, iv_neg, iv_ltT, iv_ltF, iv_leT, iv_leF, iv_eqT, iv_eqF, iv_div, iv_mod, ↓bnI_s, ↓bnV_s, ↓bnJ_s, ↓bnR_s, rt_e, rt_0, rt_bz, sv_s, sv_o, ur_s, ur_e, ur_o, bz_T, bz_F, nat_eqF]; exact h2
          · unfold fe; rw [if_neg (by rw [en]; exact q)]; simp (disch := first | decide | omega | (simp (disch := first | decide | omega) only [sv_s, sv_o, ur_s, ur_e, ur_o]; omega)) only [↓reduceIte, iv_add, iv_sub, iv_mul, iv_neg, iv_ltT, iv_ltF, iv_leT, iv_leF, iv_eqT, iv_eqF, iv_div, iv_mod, ↓bnI_s, ↓bnV_s, ↓bnJ_s, ↓bnR_s, rt_e, rt_0, rt_bz, sv_s, sv_o, ur_s, ur_e, ur_o, bz_T, bz_F, nat_eqF]; exact h3
          · (rw [q_M_isFlown_42]; simp (disch := first | decide | omega | (simp (disch := first | decide | omega) only [sv_s, sv_o, ur_s, ur_e, ur_o]; omega)) only [↓reduceIte, iv_add, iv_sub, iv_mul, iv_neg, iv_ltT, iv_ltF, iv_leT, iv_leF, iv_eqT, iv_eqF, iv_div, iv_mod, ↓bnI_s, ↓bnV_s, ↓bnJ_s, ↓bnR_s, rt_e, rt_0, rt_bz, sv_s, sv_o, ur_s, ur_e, ur_o, bz_T, bz_F, nat_eqF, ↓gI_435_33 F, ↓gI_435_35 F, ↓gI_435_32 F, ↓gR_435_31 F, ↓gR_435_0 F, ↓gI_435_34 F, ↓pI_435_33 F, ↓pI_435_32 F, ↓pI_435_34 F, ↓pI_435_35 F, ↓lI_436 F, ↓lI_437 F, ↓lI_438 F, ↓lI_439 F, ↓lI_440 F, ↓lI_441 F, ↓lI_443 F, ↓lI_444 F, ↓lI_445 F, ↓lI_446 F, ↓lI_447 F, ↓lI_448 F, ↓lI_449 F, ↓lI_450 F, ↓sI_436 F, ↓sI_437 F, ↓sI_438 F, ↓sI_439 F, ↓sI_440 F, ↓sI_441 F, ↓sI_443 F, ↓sI_444 F, ↓sI_445 F, ↓sI_446 F, ↓sI_447 F, ↓sI_448 F, ↓sI_449 F, ↓sI_450 F, il_0, il_1, il_3, il_4, il_11, il_31, il_32, il_33, il_34, il_35, il_42, il_71, y_nextBy, hA, hDn, q3])
        · have g : go D c w i := ⟨by rw [en]; exact q, by rw [en]; exact q3⟩
          have hg' : ∀ l, l < i + 1 → go D c w l := fun l hl => by
            rcases Nat.lt_or_eq_of_le (Nat.le_of_lt_succ hl) with q | q
            · exact hg l q
            · rw [q]; exact g
          have st : ∃ T, (T = if 0 < D (nb (V 435 33) (V 435 35)) then V 435 34 + 1 else V 435 34 + 0) ∧ rX m_M_isFlown m_M_isFlown 42 [.ref 435, dd, dd, dd] [] (em V J z) = rX m_M_isFlown m_M_isFlown 42 [.ref 435, dd, dd, dd] [] (em (sv (sv (sv (sv (sv V 435 33 (nb (V 435 33) (V 435 35))) 435 32 (V 435 32 + 1)) 447 (4 * nb (V 435 33) (V 435 35) + V 435 35) 1) 435 34 T) 435 35 (gt (D (nb (V 435 33) (V 435 35))) (V 435 35))) J z) := by
            by_cases q0 : 0 < D (nb (V 435 33) (V 435 35))
            · refine ⟨_, (if_pos q0).symm, ?_⟩
              (rw [q_M_isFlown_42]; simp (disch := first | decide | omega | (simp (disch := first | decide | omega) only [sv_s, sv_o, ur_s, ur_e, ur_o]; omega)) only [↓reduceIte, iv_add, iv_sub, iv_mul, iv_neg, iv_ltT, iv_ltF, iv_leT, iv_leF, iv_eqT, iv_eqF, iv_div, iv_mod, ↓bnI_s, ↓bnV_s, ↓bnJ_s, ↓bnR_s, rt_e, rt_0, rt_bz, sv_s, sv_o, ur_s, ur_e, ur_o, bz_T, bz_F, nat_eqF, ↓gI_435_33 F, ↓gI_435_35 F, ↓gI_435_32 F, ↓gR_435_31 F, ↓gR_435_0 F, ↓gI_435_34 F, ↓pI_435_33 F, ↓pI_435_32 F, ↓pI_435_34 F, ↓pI_435_35 F, ↓lI_436 F, ↓lI_437 F, ↓lI_438 F, ↓lI_439 F, ↓lI_440 F, ↓lI_441 F, ↓lI_443 F, ↓lI_444 F, ↓lI_445 F, ↓lI_446 F, ↓lI_447 F, ↓lI_448 F, ↓lI_449 F, ↓lI_450 F, ↓sI_436 F, ↓sI_437 F, ↓sI_438 F, ↓sI_439 F, ↓sI_440 F, ↓sI_441 F, ↓sI_443 F, ↓sI_444 F, ↓sI_445 F, ↓sI_446 F, ↓sI_447 F, ↓sI_448 F, ↓sI_449 F, ↓sI_450 F, il_0, il_1, il_3, il_4, il_11, il_31, il_32, il_33, il_34, il_35, il_42, il_71, y_nextBy, hA, hDn, y_turnedBy])
            · refine ⟨_, (if_neg q0).symm, ?_⟩
              (rw [q_M_isFlown_42]; simp (disch := first | decide | omega | (simp (disch := first | decide | omega) only [sv_s, sv_o, ur_s, ur_e, ur_o]; omega)) only [↓reduceIte, iv_add, iv_sub, iv_mul, iv_neg, iv_ltT, iv_ltF, iv_leT, iv_leF, iv_eqT, iv_eqF, iv_div, iv_mod, ↓bnI_s, ↓bnV_s, ↓bnJ_s, ↓bnR_s, rt_e, rt_0, rt_bz, sv_s, sv_o, ur_s, ur_e, ur_o, bz_T, bz_F, nat_eqF, ↓gI_435_33 F, ↓gI_435_35 F, ↓gI_435_32 F, ↓gR_435_31 F, ↓gR_435_0 F, ↓gI_435_34 F, ↓pI_435_33 F, ↓pI_435_32 F, ↓pI_435_34 F, ↓pI_435_35 F, ↓lI_436 F, ↓lI_437 F, ↓lI_438 F, ↓lI_439 F, ↓lI_440 F, ↓lI_441 F, ↓lI_443 F, ↓lI_444 F, ↓lI_445 F, ↓lI_446 F, ↓lI_447 F, ↓lI_448 F, ↓lI_449 F, ↓lI_450 F, ↓sI_436 F, ↓sI_437 F, ↓sI_438 F, ↓sI_439 F, ↓sI_440 F, ↓sI_441 F, ↓sI_443 F, ↓sI_444 F, ↓sI_445 F, ↓sI_446 F, ↓sI_447 F, ↓sI_448 F, ↓sI_449 F, ↓sI_450 F, il_0, il_1, il_3, il_4, il_11, il_31, il_32, il_33, il_34, il_35, il_42, il_71, y_nextBy, hA, hDn, y_turnedBy])
          obtain ⟨T, hT, st⟩ := st
          have e1 : (fs D c w (i + 1)).1 = nb (V 435 33) (V 435 35) := en
          have e3 : (fs D c w (i + 1)).2.1 = gt (D (nb (V 435 33) (V 435 35))) (V 435 35) := by
            show gt (D (fn D c w i)) (fs D c w i).2.1 = _
            rw [en, h3]
          have e2 : (fs D c w (i + 1)).2.2 = T := by
            show (fs D c w i).2.2 + (if 0 < D (fn D c w i) then 1 else 0) = _
            rw [en, ← h2, hT]
            split <;> rfl
          clear hT
          have hm' : mks (ur (V 447) (4 * nb (V 435 33) (V 435 35) + V 435 35) 1) D c w (i + 1) := by
            obtain ⟨m1, m2, m3, m4⟩ := hm
            refine ⟨fun a ha hb => ?_, fun l hl => ?_, fun a ha hb h1 => ?_, ?_⟩
            · by_cases e : a = 4 * nb (V 435 33) (V 435 35) + V 435 35
              · rw [e, ur_s]; exact Or.inr rfl
              · rw [ur_o e]; exact m1 a ha hb
            · by_cases e : l = i
              · rw [e, ea, ur_s]
              · by_cases e2 : arr D c w l = 4 * nb (V 435 33) (V 435 35) + V 435 35
                · rw [e2, ur_s]
                · rw [ur_o e2]; exact m2 l (by omega)
            · by_cases e : a = 4 * nb (V 435 33) (V 435 35) + V 435 35
              · exact ⟨i, by omega, by rw [ea, e]⟩
              · rw [ur_o e] at h1
                obtain ⟨l, hl, hla⟩ := m3 a ha hb h1
                exact ⟨l, by omega, hla⟩
            · have := cz_ur (A := V 447) 144 (4 * nb (V 435 33) (V 435 35) + V 435 35).toNat (by omega) (by rw [Int.toNat_of_nonneg (by omega)]; exact hA)
              rw [Int.toNat_of_nonneg (by omega)] at this
              omega
          obtain ⟨V', f1, f2, f3⟩ := ih (i + 1) (sv (sv (sv (sv (sv V 435 33 (nb (V 435 33) (V 435 35))) 435 32 (V 435 32 + 1)) 447 (4 * nb (V 435 33) (V 435 35) + V 435 35) 1) 435 34 T) 435 35 (gt (D (nb (V 435 33) (V 435 35))) (V 435 35))) (by omega) (fun k hk hk2 => by simp (disch := first | decide | omega | (simp (disch := first | decide | omega) only [sv_s, sv_o, ur_s, ur_e, ur_o]; omega)) only [↓reduceIte, iv_add, iv_sub, iv_mul, iv_neg, iv_ltT, iv_ltF, iv_leT, iv_leF, iv_eqT, iv_eqF, iv_div, iv_mod, ↓bnI_s, ↓bnV_s, ↓bnJ_s, ↓bnR_s, rt_e, rt_0, rt_bz, sv_s, sv_o, ur_s, ur_e, ur_o, bz_T, bz_F, nat_eqF]; exact hD k hk hk2) (by simp (disch := first | decide | omega | (simp (disch := first | decide | omega) only [sv_s, sv_o, ur_s, ur_e, ur_o]; omega)) only [↓reduceIte, iv_add, iv_sub, iv_mul, iv_neg, iv_ltT, iv_ltF, iv_leT, iv_leF, iv_eqT, iv_eqF, iv_div, iv_mod, ↓bnI_s, ↓bnV_s, ↓bnJ_s, ↓bnR_s, rt_e, rt_0, rt_bz, sv_s, sv_o, ur_s, ur_e, ur_o, bz_T, bz_F, nat_eqF]; omega) (by rw [e1]; simp (disch := first | decide | omega | (simp (disch := first | decide | omega) only [sv_s, sv_o, ur_s, ur_e, ur_o]; omega)) only [↓reduceIte, iv_add, iv_sub, iv_mul, iv_neg, iv_ltT, iv_ltF, iv_leT, iv_leF, iv_eqT, iv_eqF, iv_div, iv_mod, ↓bnI_s, ↓bnV_s, ↓bnJ_s, ↓bnR_s, rt_e, rt_0, rt_bz, sv_s, sv_o, ur_s, ur_e, ur_o, bz_T, bz_F, nat_eqF]) (by rw [e2]; simp (disch := first | decide | omega | (simp (disch := first | decide | omega) only [sv_s, sv_o, ur_s, ur_e, ur_o]; omega)) only [↓reduceIte, iv_add, iv_sub, iv_mul, iv_neg, iv_ltT, iv_ltF, iv_leT, iv_leF, iv_eqT, iv_eqF, iv_div, iv_mod, ↓bnI_s, ↓bnV_s, ↓bnJ_s, ↓bnR_s, rt_e, rt_0, rt_bz, sv_s, sv_o, ur_s, ur_e, ur_o, bz_T, bz_F, nat_eqF]) (by rw [e3]; simp (disch := first | decide | omega | (simp (disch := first | decide | omega) only [sv_s, sv_o, ur_s, ur_e, ur_o]; omega)) only [↓reduceIte, iv_add, iv_sub, iv_mul, iv_neg, iv_ltT, iv_ltF, iv_leT, iv_leF, iv_eqT, iv_eqF, iv_div, iv_mod, ↓bnI_s, ↓bnV_s, ↓bnJ_s, ↓bnR_s, rt_e, rt_0, rt_bz, sv_s, sv_o, ur_s, ur_e, ur_o, bz_T, bz_F, nat_eqF]) hg' (by simp (disch := first | decide | omega | (simp (disch := first | decide | omega) only [sv_s, sv_o, ur_s, ur_e, ur_o]; omega)) only [↓reduceIte, iv_add, iv_sub, iv_mul, iv_neg, iv_ltT, iv_ltF, iv_leT, iv_leF, iv_eqT, iv_eqF, iv_div, iv_mod, ↓bnI_s, ↓bnV_s, ↓bnJ_s, ↓bnR_s, rt_e, rt_0, rt_bz, sv_s, sv_o, ur_s, ur_e, ur_o, bz_T, bz_F, nat_eqF]; exact hm')
          refine ⟨V', fun a ha hb => (f1 a ha hb).trans (by rw [sv_o ha, sv_o ha, sv_o hb, sv_o ha, sv_o ha]), fun k hk => (f2 k hk).trans (by simp (disch := first | decide | omega | (simp (disch := first | decide | omega) only [sv_s, sv_o, ur_s, ur_e, ur_o]; omega)) only [↓reduceIte, iv_add, iv_sub, iv_mul, iv_neg, iv_ltT, iv_ltF, iv_leT, iv_leF, iv_eqT, iv_eqF, iv_div, iv_mod, ↓bnI_s, ↓bnV_s, ↓bnJ_s, ↓bnR_s, rt_e, rt_0, rt_bz, sv_s, sv_o, ur_s, ur_e, ur_o, bz_T, bz_F, nat_eqF]), ?_⟩
          rw [st]
          exact f3
      · -- here it has come before
        obtain ⟨l, hl, hla⟩ := hm.2.2.1 _ (by omega) (by omega) hA
        refine ⟨sv (sv V 435 33 (nb (V 435 33) (V 435 35))) 435 32 (V 435 32 + 1), fun a ha hb => by rw [sv_o ha, sv_o ha], fun k hk => by simp (disch := first | decide | omega | (simp (disch := first | decide | omega) only [sv_s, sv_o, ur_s, ur_e, ur_o]; omega)) only [↓reduceIte, iv_add, iv_sub, iv_mul, iv_neg, iv_ltT, iv_ltF, iv_leT, iv_leF, iv_eqT, iv_eqF, iv_div, iv_mod, ↓bnI_s, ↓bnV_s, ↓bnJ_s, ↓bnR_s, rt_e, rt_0, rt_bz, sv_s, sv_o, ur_s, ur_e, ur_o, bz_T, bz_F, nat_eqF], Or.inr ⟨go_per h hc hw hl hg (by rw [en]; exact q) (by rw [ea, hla]), ?_⟩⟩
        (rw [q_M_isFlown_42]; simp (disch := first | decide | omega | (simp (disch := first | decide | omega) only [sv_s, sv_o, ur_s, ur_e, ur_o]; omega)) only [↓reduceIte, iv_add, iv_sub, iv_mul, iv_neg, iv_ltT, iv_ltF, iv_leT, iv_leF, iv_eqT, iv_eqF, iv_div, iv_mod, ↓bnI_s, ↓bnV_s, ↓bnJ_s, ↓bnR_s, rt_e, rt_0, rt_bz, sv_s, sv_o, ur_s, ur_e, ur_o, bz_T, bz_F, nat_eqF, ↓gI_435_33 F, ↓gI_435_35 F, ↓gI_435_32 F, ↓gR_435_31 F, ↓gR_435_0 F, ↓gI_435_34 F, ↓pI_435_33 F, ↓pI_435_32 F, ↓pI_435_34 F, ↓pI_435_35 F, ↓lI_436 F, ↓lI_437 F, ↓lI_438 F, ↓lI_439 F, ↓lI_440 F, ↓lI_441 F, ↓lI_443 F, ↓lI_444 F, ↓lI_445 F, ↓lI_446 F, ↓lI_447 F, ↓lI_448 F, ↓lI_449 F, ↓lI_450 F, ↓sI_436 F, ↓sI_437 F, ↓sI_438 F, ↓sI_439 F, ↓sI_440 F, ↓sI_441 F, ↓sI_443 F, ↓sI_444 F, ↓sI_445 F, ↓sI_446 F, ↓sI_447 F, ↓sI_448 F, ↓sI_449 F, ↓sI_450 F, il_0, il_1, il_3, il_4, il_11, il_31, il_32, il_33, il_34, il_35, il_42, il_71, y_nextBy, hA])
theorem y_flown (F : Fix z) {D : Int → Int} {c w : Int} (h : HD D) (hD : ∀ k, 0 ≤ k → k < 36 → V 436 (71 + k) = D k) (hc : 0 ≤ c ∧ c < 36) (hw : 0 ≤ w ∧ w < 4) :
    ∃ V', core V' = core V ∧ ((∃ N, fin D c w N ∧ V' 435 32 = (fe D c w N).1 ∧ V' 435 33 = (fe D c w N).2.1 ∧ V' 435 34 = (fe D c w N).2.2.1 ∧ V' 435 35 = (fe D c w N).2.2.2 ∧ cA m_M_isFlown [.ref 435, .int (iv c), .int (iv w)] (em V J z) = some (.int (iv 1), em V' J z)) ∨ ((∀ l, go D c w l) ∧ cA m_M_isFlown [.ref 435, .int (iv c), .int (iv w)] (em V J z) = some (.int (iv 0), em V' J z))) := by
  obtain ⟨V1, f1, f2, f3⟩ := y_flown_0 (J := J) (c := c) (w := w) F 144 0 V (by omega) (fun k h0 h1 => absurd h1 (by omega))
  obtain ⟨V', g1, g2, g3⟩ := y_flown_l (J := J) F h hc hw 145 0 (sv (sv (sv (sv V1 435 32 0) 435 33 c) 435 34 0) 435 35 w) (by omega) (fun k hk hk2 => by simp (disch := first | decide | omega | (simp (disch := first | decide | omega) only [sv_s, sv_o, ur_s, ur_e, ur_o]; omega)) only [↓reduceIte, iv_add, iv_sub, iv_mul, iv_neg, iv_ltT, iv_ltF, iv_leT, iv_leF, iv_eqT, iv_eqF, iv_div, iv_mod, ↓bnI_s, ↓bnV_s, ↓bnJ_s, ↓bnR_s, rt_e, rt_0, rt_bz, sv_s, sv_o, ur_s, ur_e, ur_o, bz_T, bz_F, nat_eqF]; rw [f1 436 (by decide)]; exact hD k hk hk2) (by simp (disch := first | decide | omega | (simp (disch := first | decide | omega) only [sv_s, sv_o, ur_s, ur_e, ur_o]; omega)) only [↓reduceIte, iv_add, iv_sub, iv_mul, iv_neg, iv_ltT, iv_ltF, iv_leT, iv_leF, iv_eqT, iv_eqF, iv_div, iv_mod, ↓bnI_s, ↓bnV_s, ↓bnJ_s, ↓bnR_s, rt_e, rt_0, rt_bz, sv_s, sv_o, ur_s, ur_e, ur_o, bz_T, bz_F, nat_eqF]; rfl) (by simp (disch := first | decide | omega | (simp (disch := first | decide | omega) only [sv_s, sv_o, ur_s, ur_e, ur_o]; omega)) only [↓reduceIte, iv_add, iv_sub, iv_mul, iv_neg, iv_ltT, iv_ltF, iv_leT, iv_leF, iv_eqT, iv_eqF, iv_div, iv_mod, ↓bnI_s, ↓bnV_s, ↓bnJ_s, ↓bnR_s, rt_e, rt_0, rt_bz, sv_s, sv_o, ur_s, ur_e, ur_o, bz_T, bz_F, nat_eqF]; rfl) (by simp (disch := first | decide | omega | (simp (disch := first | decide | omega) only [sv_s, sv_o, ur_s, ur_e, ur_o]; omega)) only [↓reduceIte, iv_add, iv_sub, iv_mul, iv_neg, iv_ltT, iv_ltF, iv_leT, iv_leF, iv_eqT, iv_eqF, iv_div, iv_mod, ↓bnI_s, ↓bnV_s, ↓bnJ_s, ↓bnR_s, rt_e, rt_0, rt_bz, sv_s, sv_o, ur_s, ur_e, ur_o, bz_T, bz_F, nat_eqF]; rfl) (by simp (disch := first | decide | omega | (simp (disch := first | decide | omega) only [sv_s, sv_o, ur_s, ur_e, ur_o]; omega)) only [↓reduceIte, iv_add, iv_sub, iv_mul, iv_neg, iv_ltT, iv_ltF, iv_leT, iv_leF, iv_eqT, iv_eqF, iv_div, iv_mod, ↓bnI_s, ↓bnV_s, ↓bnJ_s, ↓bnR_s, rt_e, rt_0, rt_bz, sv_s, sv_o, ur_s, ur_e, ur_o, bz_T, bz_F, nat_eqF]; rfl) (fun l hl => absurd hl (Nat.not_lt_zero l)) (by
    simp (disch := first | decide | omega | (simp (disch := first | decide | omega) only [sv_s, sv_o, ur_s, ur_e, ur_o]; omega)) only [↓reduceIte, iv_add, iv_sub, iv_mul, iv_neg, iv_ltT, iv_ltF, iv_leT, iv_leF, iv_eqT, iv_eqF, iv_div, iv_mod, ↓bnI_s, ↓bnV_s, ↓bnJ_s, ↓bnR_s, rt_e, rt_0, rt_bz, sv_s, sv_o, ur_s, ur_e, ur_o, bz_T, bz_F, nat_eqF]
    refine ⟨fun a ha hb => Or.inl (f2 a ha hb), fun l hl => absurd hl (Nat.not_lt_zero l), fun a ha hb h1 => ?_, ?_⟩
    · rw [f2 a ha hb] at h1; exact absurd h1 (by decide)
    · rw [cz_all 144 (fun k hk => f2 k (by omega) (by omega))])
  have st : cA m_M_isFlown [.ref 435, .int (iv c), .int (iv w)] (em V J z) = rX m_M_isFlown m_M_isFlown 42 [.ref 435, dd, dd, dd] [] (em (sv (sv (sv (sv V1 435 32 0) 435 33 c) 435 34 0) 435 35 w) J z) := by
    rw [q_M_isFlown, gd_435 F]
    refine f3.trans ?_
    (rw [q_M_isFlown_2]; simp (disch := first | decide | omega | (simp (disch := first | decide | omega) only [sv_s, sv_o, ur_s, ur_e, ur_o]; omega)) only [↓reduceIte, iv_add, iv_sub, iv_mul, iv_neg, iv_ltT, iv_ltF, iv_leT, iv_leF, iv_eqT, iv_eqF, iv_div, iv_mod, ↓bnI_s, ↓bnV_s, ↓bnJ_s, ↓bnR_s, rt_e, rt_0, rt_bz, sv_s, sv_o, ur_s, ur_e, ur_o, bz_T, bz_F, nat_eqF, ↓gR_435_31 F, ↓pI_435_32 F, ↓pI_435_33 F, ↓pI_435_34 F, ↓pI_435_35 F, ↓sI_436 F, ↓sI_437 F, ↓sI_438 F, ↓sI_439 F, ↓sI_440 F, ↓sI_441 F, ↓sI_443 F, ↓sI_444 F, ↓sI_445 F, ↓sI_446 F, ↓sI_447 F, ↓sI_448 F, ↓sI_449 F, ↓sI_450 F, il_0, il_1, il_2, il_11, il_31, il_32, il_33, il_34, il_35, il_42, il_144])
  refine ⟨V', core_ext fun a k hs => ?_, ?_⟩
  · by_cases h4 : a = 447
    · rw [h4, scr_T (by omega)] at hs; cases hs
    · by_cases h5 : a = 435
      · subst h5
        by_cases h6 : k < 32
        · rw [g2 k h6]; simp (disch := first | decide | omega | (simp (disch := first | decide | omega) only [sv_s, sv_o, ur_s, ur_e, ur_o]; omega)) only [↓reduceIte, iv_add, iv_sub, iv_mul, iv_neg, iv_ltT, iv_ltF, iv_leT, iv_leF, iv_eqT, iv_eqF, iv_div, iv_mod, ↓bnI_s, ↓bnV_s, ↓bnJ_s, ↓bnR_s, rt_e, rt_0, rt_bz, sv_s, sv_o, ur_s, ur_e, ur_o, bz_T, bz_F, nat_eqF]; rw [f1 435 (by decide)]
        · rw [scr_T (by omega)] at hs; cases hs
      · rw [g1 a h5 h4, sv_o h5, sv_o h5, sv_o h5, sv_o h5, f1 a h4]
  · rw [st]
    exact g3
end
