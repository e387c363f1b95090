/-! which rows fit -/
noncomputable def fl' (P : Nat → Prop) : Nat → List Nat
  | 0 => []
  | n + 1 => @ite _ (P n) (Classical.propDecidable (P n)) (fl' P n ++ [n]) (fl' P n)
theorem fl_T {P : Nat → Prop} {n : Nat} (h : P n) : fl' P (n + 1) = fl' P n ++ [n] := by
  show @ite _ (P n) (Classical.propDecidable (P n)) (fl' P n ++ [n]) (fl' P n) = _
  rw [if_pos h]
theorem fl_F {P : Nat → Prop} {n : Nat} (h : ¬ P n) : fl' P (n + 1) = fl' P n := by
  show @ite _ (P n) (Classical.propDecidable (P n)) (fl' P n ++ [n]) (fl' P n) = _
  rw [if_neg h]
def ln (L : List Nat) : Int := L.length
theorem ln_app (L : List Nat) (x : Nat) : ln (L ++ [x]) = ln L + 1 := by unfold ln; rw [List.length_append, List.length_singleton]; rfl
theorem fl_len (P : Nat → Prop) : ∀ n, (fl' P n).length ≤ n := by
  intro n
  induction n with
  | zero => exact Nat.le_refl 0
  | succ n ih =>
    by_cases h : P n
    · rw [fl_T h, List.length_append, List.length_singleton]; omega
    · rw [fl_F h]; omega
theorem ln_fl (P : Nat → Prop) (n : Nat) : 0 ≤ ln (fl' P n) ∧ ln (fl' P n) ≤ n := by
  have := fl_len P n
  unfold ln; omega
theorem fl_mem (P : Nat → Prop) : ∀ n k, k ∈ fl' P n → k < n ∧ P k := by
  intro n
  induction n with
  | zero => intro k h; cases h
  | succ n ih =>
    intro k hk
    by_cases h : P n
    · rw [fl_T h] at hk
      rcases List.mem_append.mp hk with q | q
      · have := ih k q; exact ⟨by omega, this.2⟩
      · rw [List.mem_singleton.mp q]; exact ⟨by omega, h⟩
    · rw [fl_F h] at hk
      have := ih k hk; exact ⟨by omega, this.2⟩
/-- the row's first cells are the list -/
def Arr (A : Int → Int) (L : List Nat) : Prop := ∀ i : Nat, i < L.length → A i = (L.getD i 0 : Int)
theorem Arr_nil (A : Int → Int) : Arr A [] := fun i h => absurd h (Nat.not_lt_zero i)
theorem Arr_app {A : Int → Int} {L : List Nat} {x : Nat} (h : Arr A L) : Arr (ur A (ln L) x) (L ++ [x]) := by
  intro i hi
  unfold ln
  rw [List.length_append, List.length_singleton] at hi
  by_cases e : i = L.length
  · rw [e, ur_s, List.getD_eq_getElem?_getD, List.getElem?_append_right (Nat.le_refl _), Nat.sub_self]
    rfl
  · rw [ur_o (by omega), h i (by omega), List.getD_eq_getElem?_getD, List.getD_eq_getElem?_getD, List.getElem?_append_left (by omega)]
theorem getD_mem {L : List Nat} {i : Nat} (h : i < L.length) : L.getD i 0 ∈ L := by
  rw [List.getD_eq_getElem?_getD, List.getElem?_eq_getElem h]
  exact List.getElem_mem h
/-- all guesses are answered so by this row -/
def fitP (G R : Int → Int) (n : Int) (r : Nat) : Prop := ∀ j, 0 ≤ j → j < n → an (G j).toNat r = R j
def GR (G R : Int → Int) (n : Int) : Prop := (0 ≤ n ∧ n ≤ 6) ∧ ∀ j, 0 ≤ j → j < n → (0 ≤ G j ∧ G j < 125) ∧ (0 ≤ R j ∧ R j ≤ 33)
section
variable {V J : Vm} {z : Zz}
theorem y_fitsAll_l (F : Fix z) (M : Mrk V) {n : Int} (hg : GR (V 22) (V 23) n) (hn : V 21 2 = n) {r : Nat} (hr : r < 125) : ∀ (m : Nat) (j : Int), 0 ≤ j → j + m = n → ∃ b : Int, (b = 0 ∨ b = 1) ∧ (b = 1 ↔ ∀ l, j ≤ l → l < n → an (V 22 l).toNat r = V 23 l) ∧ rX m_Rows_fitsAll m_Rows_fitsAll 2 [.ref 431, .int (iv r), .ref 21, .int (iv j)] [] (em V J z) = some (.int (iv b), em V J z) := by
  intro m
  induction m with
  | zero =>
    intro j hj hi
    have := hg.1
    refine ⟨1, Or.inr rfl, ⟨fun _ l l1 l2 => absurd l2 (by omega), fun _ => rfl⟩, ?_⟩
    (rw [q_Rows_fitsAll_2]; simp (disch := first | decide | omega | (simp (disch := first | decide | omega) only [sv_s, sv_o, ur_s, ur_e, ur_o]; omega)) only [↓reduceIte, iv_add, iv_sub, iv_mul, iv_neg, iv_ltT, iv_ltF, iv_leT, iv_leF, iv_eqT, iv_eqF, iv_div, iv_mod, ↓bnI_s, ↓bnV_s, ↓bnJ_s, ↓bnR_s, rt_e, rt_0, rt_bz, sv_s, sv_o, ur_s, ur_e, ur_o, bz_T, bz_F, nat_eqF, ↓gI_21_2 F, ↓gI_24_2 F, ↓gI_27_2 F, ↓gR_21_0 F, ↓gR_24_0 F, ↓gR_27_0 F, ↓gR_21_1 F, ↓gR_24_1 F, ↓gR_27_1 F, il_0, il_1, il_2, il_3])
  | succ m ih =>
    intro j hj hi
    have gn := hg.1
    obtain ⟨g1, g2⟩ := hg.2 j hj (by omega)
    obtain ⟨g, hG⟩ := Int.eq_ofNat_of_zero_le g1.1
    have rg := an_rg (r := g) (q := r) (by omega) hr
    have rep := y_reply (J := J) F M (r := g) (q := r) (by omega) hr
    have eg : (V 22 j).toNat = g := by rw [hG]; rfl
    by_cases e : an g r = V 23 j
    · obtain ⟨b, b1, b2, b3⟩ := ih (j + 1) (by omega) (by omega)
      refine ⟨b, b1, ?_, ?_⟩
      · rw [b2]
        constructor
        · intro h l l1 l2
          by_cases q : l = j
          · rw [q, eg]; exact e
          · exact h l (by omega) l2
        · intro h l l1 l2
          exact h l (by omega) l2
      · rw [← b3]
        (rw [q_Rows_fitsAll_2]; simp (disch := first | decide | omega | (simp (disch := first | decide | omega) only [sv_s, sv_o, ur_s, ur_e, ur_o]; omega)) only [↓reduceIte, iv_add, iv_sub, iv_mul, iv_neg, iv_ltT, iv_ltF, iv_leT, iv_leF, iv_eqT, iv_eqF, iv_div, iv_mod, ↓bnI_s, ↓bnV_s, ↓bnJ_s, ↓bnR_s, rt_e, rt_0, rt_bz, sv_s, sv_o, ur_s, ur_e, ur_o, bz_T, bz_F, nat_eqF, ↓gI_21_2 F, ↓gI_24_2 F, ↓gI_27_2 F, ↓gR_21_0 F, ↓gR_24_0 F, ↓gR_27_0 F, ↓gR_21_1 F, ↓gR_24_1 F, ↓gR_27_1 F, il_0, il_1, il_2, il_3, y_get (s_22 F) (by decide), y_get (s_23 F) (by decide), rd_in, hG, rep])
    · refine ⟨0, Or.inl rfl, ⟨fun q => absurd q (by decide), fun q => absurd (q j (by omega) (by omega)) (by rw [eg]; exact e)⟩, ?_⟩
      (rw [q_Rows_fitsAll_2]; simp (disch := first | decide | omega | (simp (disch := first | decide | omega) only [sv_s, sv_o, ur_s, ur_e, ur_o]; omega)) only [↓reduceIte, iv_add, iv_sub, iv_mul, iv_neg, iv_ltT, iv_ltF, iv_leT, iv_leF, iv_eqT, iv_eqF, iv_div, iv_mod, ↓bnI_s, ↓bnV_s, ↓bnJ_s, ↓bnR_s, rt_e, rt_0, rt_bz, sv_s, sv_o, ur_s, ur_e, ur_o, bz_T, bz_F, nat_eqF, ↓gI_21_2 F, ↓gI_24_2 F, ↓gI_27_2 F, ↓gR_21_0 F, ↓gR_24_0 F, ↓gR_27_0 F, ↓gR_21_1 F, ↓gR_24_1 F, ↓gR_27_1 F, il_0, il_1, il_2, il_3, y_get (s_22 F) (by decide), y_get (s_23 F) (by decide), rd_in, hG, rep])
theorem y_fitsAll (F : Fix z) (M : Mrk V) {n : Int} (hg : GR (V 22) (V 23) n) (hn : V 21 2 = n) {r : Nat} (hr : r < 125) : ∃ b : Int, (b = 0 ∨ b = 1) ∧ (b = 1 ↔ fitP (V 22) (V 23) n r) ∧ cA m_Rows_fitsAll [.ref 431, .int (iv r), .ref 21] (em V J z) = some (.int (iv b), em V J z) := by
  obtain ⟨b, b1, b2, b3⟩ := y_fitsAll_l (J := J) F M hg hn hr n.toNat 0 (by omega) (by have := hg.1; omega)
  refine ⟨b, b1, b2, ?_⟩
  rw [q_Rows_fitsAll, gd_431 F, ← b3, il_0]
theorem y_sift_l (F : Fix z) {n : Int} : ∀ (m x : Nat) (V : Vm), Mrk V → GR (V 22) (V 23) n → V 21 2 = n → x + m = 125 → V 431 3 = ln (fl' (fitP (V 22) (V 23) n) x) → Arr (V 433) (fl' (fitP (V 22) (V 23) n) x) → ∃ V', (∀ a, a ≠ 431 → a ≠ 433 → V' a = V a) ∧ V' 431 3 = ln (fl' (fitP (V 22) (V 23) n) 125) ∧ Arr (V' 433) (fl' (fitP (V 22) (V 23) n) 125) ∧ rX m_Rows_sift m_Rows_sift 7 [.ref 431, .ref 21, .int (iv x)] [] (em V J z) = some (.null, em V' J z) := by
  intro m
  induction m with
  | zero =>
    intro x V M hg hn hx h3 hA
    have e : x = 125 := by omega
    subst e
    refine ⟨V, fun _ _ _ => rfl, h3, hA, ?_⟩
    (rw [q_Rows_sift_7]; simp (disch := first | decide | omega | (simp (disch := first | decide | omega) only [sv_s, sv_o, ur_s, ur_e, ur_o]; omega)) only [↓reduceIte, iv_add, iv_sub, iv_mul, iv_neg, iv_ltT, iv_ltF, iv_leT, iv_leF, iv_eqT, iv_eqF, iv_div, iv_mod, ↓bnI_s, ↓bnV_s, ↓bnJ_s, ↓bnR_s, rt_e, rt_0, rt_bz, sv_s, sv_o, ur_s, ur_e, ur_o, bz_T, bz_F, nat_eqF, ↓gR_431_1 F, ↓gI_431_3 F, ↓pI_431_3 F, il_0, il_1, il_3, il_6, il_7, il_125])
  | succ m ih =>
    intro x V M hg hn hx h3 hA
    obtain ⟨b, b1, b2, b3⟩ := y_fitsAll (J := J) F M hg hn (r := x) (by omega)
    have len := ln_fl (fitP (V 22) (V 23) n) x
    rcases b1 with rfl | rfl
    · have nf : ¬ fitP (V 22) (V 23) n x := fun q => by have := b2.mpr q; omega
      obtain ⟨V', f1, f2, f3, f4⟩ := ih (x + 1) V M hg hn (by omega) (by rw [fl_F nf]; exact h3) (by rw [fl_F nf]; exact hA)
      refine ⟨V', f1, f2, f3, ?_⟩
      rw [← f4]
      (rw [q_Rows_sift_7]; simp (disch := first | decide | omega | (simp (disch := first | decide | omega) only [sv_s, sv_o, ur_s, ur_e, ur_o]; omega)) only [↓reduceIte, iv_add, iv_sub, iv_mul, iv_neg, iv_ltT, iv_ltF, iv_leT, iv_leF, iv_eqT, iv_eqF, iv_div, iv_mod, ↓bnI_s, ↓bnV_s, ↓bnJ_s, ↓bnR_s, rt_e, rt_0, rt_bz, sv_s, sv_o, ur_s, ur_e, ur_o, bz_T, bz_F, nat_eqF, ↓gR_431_1 F, ↓gI_431_3 F, ↓pI_431_3 F, il_0, il_1, il_3, il_6, il_7, il_125, b3, Int.natCast_add, Int.natCast_one])
    · have nf := b2.mp rfl
      obtain ⟨V', f1, f2, f3, f4⟩ := ih (x + 1) (sv (sv V 433 (V 431 3) x) 431 3 (V 431 3 + 1)) (fun r hr => by simp (disch := first | decide | omega | (simp (disch := first | decide | omega) only [sv_s, sv_o, ur_s, ur_e, ur_o]; omega)) only [↓reduceIte, iv_add, iv_sub, iv_mul, iv_neg, iv_ltT, iv_ltF, iv_leT, iv_leF, iv_eqT, iv_eqF, iv_div, iv_mod, ↓bnI_s, ↓bnV_s, ↓bnJ_s, ↓bnR_s, rt_e, rt_0, rt_bz, sv_s, sv_o, ur_s, ur_e, ur_o, bz_T, bz_F, nat_eqF]; exact M r hr) (by simp (disch := first | decide | omega | (simp (disch := first | decide | omega) only [sv_s, sv_o, ur_s, ur_e, ur_o]; omega)) only [↓reduceIte, iv_add, iv_sub, iv_mul, iv_neg, iv_ltT, iv_ltF, iv_leT, iv_leF, iv_eqT, iv_eqF, iv_div, iv_mod, ↓bnI_s, ↓bnV_s, ↓bnJ_s, ↓bnR_s, rt_e, rt_0, rt_bz, sv_s, sv_o, ur_s, ur_e, ur_o, bz_T, bz_F, nat_eqF]; exact hg) (by simp (disch := first | decide | omega | (simp (disch := first | decide | omega) only [sv_s, sv_o, ur_s, ur_e, ur_o]; omega)) only [↓reduceIte, iv_add, iv_sub, iv_mul, iv_neg, iv_ltT, iv_ltF, iv_leT, iv_leF, iv_eqT, iv_eqF, iv_div, iv_mod, ↓bnI_s, ↓bnV_s, ↓bnJ_s, ↓bnR_s, rt_e, rt_0, rt_bz, sv_s, sv_o, ur_s, ur_e, ur_o, bz_T, bz_F, nat_eqF]; exact hn) (by omega) (by simp (disch := first | decide | omega | (simp (disch := first | decide | omega) only [sv_s, sv_o, ur_s, ur_e, ur_o]; omega)) only [↓reduceIte, iv_add, iv_sub, iv_mul, iv_neg, iv_ltT, iv_ltF, iv_leT, iv_leF, iv_eqT, iv_eqF, iv_div, iv_mod, ↓bnI_s, ↓bnV_s, ↓bnJ_s, ↓bnR_s, rt_e, rt_0, rt_bz, sv_s, sv_o, ur_s, ur_e, ur_o, bz_T, bz_F, nat_eqF]; rw [fl_T nf, ln_app]; omega) (by simp (disch := first | decide | omega | (simp (disch := first | decide | omega) only [sv_s, sv_o, ur_s, ur_e, ur_o]; omega)) only [↓reduceIte, iv_add, iv_sub, iv_mul, iv_neg, iv_ltT, iv_ltF, iv_leT, iv_leF, iv_eqT, iv_eqF, iv_div, iv_mod, ↓bnI_s, ↓bnV_s, ↓bnJ_s, ↓bnR_s, rt_e, rt_0, rt_bz, sv_s, sv_o, ur_s, ur_e, ur_o, bz_T, bz_F, nat_eqF]; rw [fl_T nf, h3]; exact Arr_app hA)
      have e2 : sv (sv V 433 (V 431 3) x) 431 3 (V 431 3 + 1) 22 = V 22 := by simp (disch := first | decide | omega | (simp (disch := first | decide | omega) only [sv_s, sv_o, ur_s, ur_e, ur_o]; omega)) only [↓reduceIte, iv_add, iv_sub, iv_mul, iv_neg, iv_ltT, iv_ltF, iv_leT, iv_leF, iv_eqT, iv_eqF, iv_div, iv_mod, ↓bnI_s, ↓bnV_s, ↓bnJ_s, ↓bnR_s, rt_e, rt_0, rt_bz, sv_s, sv_o, ur_s, ur_e, ur_o, bz_T, bz_F, nat_eqF]
      have e3 : sv (sv V 433 (V 431 3) x) 431 3 (V 431 3 + 1) 23 = V 23 := by simp (disch := first | decide | omega | (simp (disch := first | decide | omega) only [sv_s, sv_o, ur_s, ur_e, ur_o]; omega)) only [↓reduceIte, iv_add, iv_sub, iv_mul, iv_neg, iv_ltT, iv_ltF, iv_leT, iv_leF, iv_eqT, iv_eqF, iv_div, iv_mod, ↓bnI_s, ↓bnV_s, ↓bnJ_s, ↓bnR_s, rt_e, rt_0, rt_bz, sv_s, sv_o, ur_s, ur_e, ur_o, bz_T, bz_F, nat_eqF]
      rw [e2, e3] at f2 f3
      refine ⟨V', fun a ha hb => (f1 a ha hb).trans (by rw [sv_o ha, sv_o hb]), f2, f3, ?_⟩
      rw [← f4]
      (rw [q_Rows_sift_7]; simp (disch := first | decide | omega | (simp (disch := first | decide | omega) only [sv_s, sv_o, ur_s, ur_e, ur_o]; omega)) only [↓reduceIte, iv_add, iv_sub, iv_mul, iv_neg, iv_ltT, iv_ltF, iv_leT, iv_leF, iv_eqT, iv_eqF, iv_div, iv_mod, ↓bnI_s, ↓bnV_s, ↓bnJ_s, ↓bnR_s, rt_e, rt_0, rt_bz, sv_s, sv_o, ur_s, ur_e, ur_o, bz_T, bz_F, nat_eqF, ↓gR_431_1 F, ↓gI_431_3 F, ↓pI_431_3 F, il_0, il_1, il_3, il_6, il_7, il_125, b3, y_put (s_433 F) (by decide), pt_in, Int.natCast_add, Int.natCast_one])
theorem y_sift (F : Fix z) {n : Int} (M : Mrk V) (hg : GR (V 22) (V 23) n) (hn : V 21 2 = n) : ∃ V', (∀ a, a ≠ 431 → a ≠ 433 → V' a = V a) ∧ V' 431 3 = ln (fl' (fitP (V 22) (V 23) n) 125) ∧ Arr (V' 433) (fl' (fitP (V 22) (V 23) n) 125) ∧ cA m_Rows_sift [.ref 431, .ref 21] (em V J z) = some (.null, em V' J z) := by
  obtain ⟨V', f1, f2, f3, f4⟩ := y_sift_l (J := J) F (n := n) 125 0 (sv V 431 3 0) (fun r hr => by simp (disch := first | decide | omega | (simp (disch := first | decide | omega) only [sv_s, sv_o, ur_s, ur_e, ur_o]; omega)) only [↓reduceIte, iv_add, iv_sub, iv_mul, iv_neg, iv_ltT, iv_ltF, iv_leT, iv_leF, iv_eqT, iv_eqF, iv_div, iv_mod, ↓bnI_s, ↓bnV_s, ↓bnJ_s, ↓bnR_s, rt_e, rt_0, rt_bz, sv_s, sv_o, ur_s, ur_e, ur_o, bz_T, bz_F, nat_eqF]; exact M r hr) (by simp (disch := first | decide | omega | (simp (disch := first | decide | omega) only [sv_s, sv_o, ur_s, ur_e, ur_o]; omega)) only [↓reduceIte, iv_add, iv_sub, iv_mul, iv_neg, iv_ltT, iv_ltF, iv_leT, iv_leF, iv_eqT, iv_eqF, iv_div, iv_mod, ↓bnI_s, ↓bnV_s, ↓bnJ_s, ↓bnR_s, rt_e, rt_0, rt_bz, sv_s, sv_o, ur_s, ur_e, ur_o, bz_T, bz_F, nat_eqF]; exact hg) (by simp (disch := first | decide | omega | (simp (disch := first | decide | omega) only [sv_s, sv_o, ur_s, ur_e, ur_o]; omega)) only [↓reduceIte, iv_add, iv_sub, iv_mul, iv_neg, iv_ltT, iv_ltF, iv_leT, iv_leF, iv_eqT, iv_eqF, iv_div, iv_mod, ↓bnI_s, ↓bnV_s, ↓bnJ_s, ↓bnR_s, rt_e, rt_0, rt_bz, sv_s, sv_o, ur_s, ur_e, ur_o, bz_T, bz_F, nat_eqF]; exact hn) (by omega) (by simp (disch := first | decide | omega | (simp (disch := first | decide | omega) only [sv_s, sv_o, ur_s, ur_e, ur_o]; omega)) only [↓reduceIte, iv_add, iv_sub, iv_mul, iv_neg, iv_ltT, iv_ltF, iv_leT, iv_leF, iv_eqT, iv_eqF, iv_div, iv_mod, ↓bnI_s, ↓bnV_s, ↓bnJ_s, ↓bnR_s, rt_e, rt_0, rt_bz, sv_s, sv_o, ur_s, ur_e, ur_o, bz_T, bz_F, nat_eqF]; rfl) (Arr_nil _)
  have e2 : sv V 431 3 0 22 = V 22 := by simp (disch := first | decide | omega | (simp (disch := first | decide | omega) only [sv_s, sv_o, ur_s, ur_e, ur_o]; omega)) only [↓reduceIte, iv_add, iv_sub, iv_mul, iv_neg, iv_ltT, iv_ltF, iv_leT, iv_leF, iv_eqT, iv_eqF, iv_div, iv_mod, ↓bnI_s, ↓bnV_s, ↓bnJ_s, ↓bnR_s, rt_e, rt_0, rt_bz, sv_s, sv_o, ur_s, ur_e, ur_o, bz_T, bz_F, nat_eqF]
  have e3 : sv V 431 3 0 23 = V 23 := by simp (disch := first | decide | omega | (simp (disch := first | decide | omega) only [sv_s, sv_o, ur_s, ur_e, ur_o]; omega)) only [↓reduceIte, iv_add, iv_sub, iv_mul, iv_neg, iv_ltT, iv_ltF, iv_leT, iv_leF, iv_eqT, iv_eqF, iv_div, iv_mod, ↓bnI_s, ↓bnV_s, ↓bnJ_s, ↓bnR_s, rt_e, rt_0, rt_bz, sv_s, sv_o, ur_s, ur_e, ur_o, bz_T, bz_F, nat_eqF]
  rw [e2, e3] at f2 f3
  refine ⟨V', fun a ha hb => (f1 a ha hb).trans (sv_o ha), f2, f3, ?_⟩
  rw [← f4]
  simp (disch := first | decide | omega | (simp (disch := first | decide | omega) only [sv_s, sv_o, ur_s, ur_e, ur_o]; omega)) only [↓reduceIte, iv_add, iv_sub, iv_mul, iv_neg, iv_ltT, iv_ltF, iv_leT, iv_leF, iv_eqT, iv_eqF, iv_div, iv_mod, ↓bnI_s, ↓bnV_s, ↓bnJ_s, ↓bnR_s, rt_e, rt_0, rt_bz, sv_s, sv_o, ur_s, ur_e, ur_o, bz_T, bz_F, nat_eqF, ↓q_Rows_sift, ↓pI_431_3 F, ↓gd_431 F, il_0, il_1, il_3, il_6, il_7, il_22]
  rfl
/-! the model's -/
/-- the model's guesses are these -/
def MG (A G R : Int → Int) (n : Int) : Prop := A 4 = n ∧ ∀ j, 0 ≤ j → j < n → A (107 + 3 * j) = G j ∧ 10 * A (107 + 3 * j + 1) + A (107 + 3 * j + 2) = R j ∧ (0 ≤ A (107 + 3 * j + 1) ∧ A (107 + 3 * j + 1) ≤ 3) ∧ (0 ≤ A (107 + 3 * j + 2) ∧ A (107 + 3 * j + 2) ≤ 3)
theorem y_lay_i (F : Fix z) {G R : Int → Int} {n k : Int} (hg : GR G R n) (hm : MG (V 436) G R n) {r : Nat} (hr : r < 125) (hk : 0 ≤ k ∧ k ≤ 125) : ∀ (m : Nat) (j b : Int), 0 ≤ j → j + m = n → (b = 0 ∨ b = 1) → ∃ b' : Int, (b' = 0 ∨ b' = 1) ∧ (b' = 1 ↔ b = 1 ∧ ∀ l, j ≤ l → l < n → an (G l).toNat r = R l) ∧ rX m_M_layFits m_M_layFits 16 [.ref 435, .int (iv k), .int (iv r), .int (iv b), .int (iv (107 + 3 * j))] [] (em V J z) = rX m_M_layFits m_M_layFits 16 [.ref 435, .int (iv k), .int (iv r), .int (iv b'), .int (iv (107 + 3 * n))] [] (em V J z) := by
  intro m
  induction m with
  | zero =>
    intro j b hj hi hb
    refine ⟨b, hb, ⟨fun q => ⟨q, fun l l1 l2 => absurd l2 (by omega)⟩, fun q => q.1⟩, ?_⟩
    rw [show j = n by omega]
  | succ m ih =>
    intro j b hj hi hb
    have gn := hg.1
    have h4 := hm.1
    obtain ⟨g1, g2⟩ := hg.2 j hj (by omega)
    obtain ⟨g, hG⟩ := Int.eq_ofNat_of_zero_le g1.1
    obtain ⟨m1, m2, m3, m4⟩ := hm.2 j hj (by omega)
    have rg := an_rg (r := g) (q := r) (by omega) hr
    have rep := y_answerOf (h := em V J z) (r := g) (q := r) (by omega) hr
    have eg : (G j).toNat = g := by rw [hG]; rfl
    rcases hb with rfl | rfl
    · obtain ⟨b', b1, b2, b3⟩ := ih (j + 1) 0 (by omega) (by omega) (Or.inl rfl)
      refine ⟨b', b1, ⟨fun q => absurd (b2.mp q).1 (by decide), fun q => absurd q.1 (by decide)⟩, ?_⟩
      rw [← b3]
      (rw [q_M_layFits_16]; simp (disch := first | decide | omega | (simp (disch := first | decide | omega) only [sv_s, sv_o, ur_s, ur_e, ur_o]; omega)) only [↓reduceIte, iv_add, iv_sub, iv_mul, iv_neg, iv_ltT, iv_ltF, iv_leT, iv_leF, iv_eqT, iv_eqF, iv_div, iv_mod, ↓bnI_s, ↓bnV_s, ↓bnJ_s, ↓bnR_s, rt_e, rt_0, rt_bz, sv_s, sv_o, ur_s, ur_e, ur_o, bz_T, bz_F, nat_eqF, ↓gR_435_0 F, ↓gR_435_36 F, ↓lI_436 F, ↓lI_437 F, ↓lI_438 F, ↓lI_439 F, ↓lI_440 F, ↓lI_441 F, ↓lI_443 F, ↓lI_444 F, ↓lI_445 F, ↓lI_446 F, ↓lI_447 F, ↓lI_448 F, ↓lI_449 F, ↓lI_450 F, ↓sI_436 F, ↓sI_437 F, ↓sI_438 F, ↓sI_439 F, ↓sI_440 F, ↓sI_441 F, ↓sI_443 F, ↓sI_444 F, ↓sI_445 F, ↓sI_446 F, ↓sI_447 F, ↓sI_448 F, ↓sI_449 F, ↓sI_450 F, il_0, il_1, il_2, il_3, il_4, il_10, il_11, il_16, il_36, il_107, hm.1])
      rw [show 107 + 3 * j + 3 = 107 + 3 * (j + 1) by omega]
    · by_cases e : an g r = R j
      · obtain ⟨b', b1, b2, b3⟩ := ih (j + 1) 1 (by omega) (by omega) (Or.inr rfl)
        refine ⟨b', b1, ?_, ?_⟩
        · rw [b2]
          refine and_congr_right fun _ => ⟨fun h l l1 l2 => ?_, fun h l l1 l2 => h l (by omega) l2⟩
          by_cases q : l = j
          · rw [q, eg]; exact e
          · exact h l (by omega) l2
        · rw [← b3]
          (rw [q_M_layFits_16]; simp (disch := first | decide | omega | (simp (disch := first | decide | omega) only [sv_s, sv_o, ur_s, ur_e, ur_o]; omega)) only [↓reduceIte, iv_add, iv_sub, iv_mul, iv_neg, iv_ltT, iv_ltF, iv_leT, iv_leF, iv_eqT, iv_eqF, iv_div, iv_mod, ↓bnI_s, ↓bnV_s, ↓bnJ_s, ↓bnR_s, rt_e, rt_0, rt_bz, sv_s, sv_o, ur_s, ur_e, ur_o, bz_T, bz_F, nat_eqF, ↓gR_435_0 F, ↓gR_435_36 F, ↓lI_436 F, ↓lI_437 F, ↓lI_438 F, ↓lI_439 F, ↓lI_440 F, ↓lI_441 F, ↓lI_443 F, ↓lI_444 F, ↓lI_445 F, ↓lI_446 F, ↓lI_447 F, ↓lI_448 F, ↓lI_449 F, ↓lI_450 F, ↓sI_436 F, ↓sI_437 F, ↓sI_438 F, ↓sI_439 F, ↓sI_440 F, ↓sI_441 F, ↓sI_443 F, ↓sI_444 F, ↓sI_445 F, ↓sI_446 F, ↓sI_447 F, ↓sI_448 F, ↓sI_449 F, ↓sI_450 F, il_0, il_1, il_2, il_3, il_4, il_10, il_11, il_16, il_36, il_107, hm.1, m1, hG, rep])
          rw [show 107 + 3 * j + 3 = 107 + 3 * (j + 1) by omega]
      · obtain ⟨b', b1, b2, b3⟩ := ih (j + 1) 0 (by omega) (by omega) (Or.inl rfl)
        refine ⟨b', b1, ⟨fun q => absurd (b2.mp q).1 (by decide), fun q => absurd (q.2 j (by omega) (by omega)) (by rw [eg]; exact e)⟩, ?_⟩
        rw [← b3]
        (rw [q_M_layFits_16]; simp (disch := first | decide | omega | (simp (disch := first | decide | omega) only [sv_s, sv_o, ur_s, ur_e, ur_o]; omega)) only [↓reduceIte, iv_add, iv_sub, iv_mul, iv_neg, iv_ltT, iv_ltF, iv_leT, iv_leF, iv_eqT, iv_eqF, iv_div, iv_mod, ↓bnI_s, ↓bnV_s, ↓bnJ_s, ↓bnR_s, rt_e, rt_0, rt_bz, sv_s, sv_o, ur_s, ur_e, ur_o, bz_T, bz_F, nat_eqF, ↓gR_435_0 F, ↓gR_435_36 F, ↓lI_436 F, ↓lI_437 F, ↓lI_438 F, ↓lI_439 F, ↓lI_440 F, ↓lI_441 F, ↓lI_443 F, ↓lI_444 F, ↓lI_445 F, ↓lI_446 F, ↓lI_447 F, ↓lI_448 F, ↓lI_449 F, ↓lI_450 F, ↓sI_436 F, ↓sI_437 F, ↓sI_438 F, ↓sI_439 F, ↓sI_440 F, ↓sI_441 F, ↓sI_443 F, ↓sI_444 F, ↓sI_445 F, ↓sI_446 F, ↓sI_447 F, ↓sI_448 F, ↓sI_449 F, ↓sI_450 F, il_0, il_1, il_2, il_3, il_4, il_10, il_11, il_16, il_36, il_107, hm.1, m1, hG, rep])
        rw [show 107 + 3 * j + 3 = 107 + 3 * (j + 1) by omega]
theorem y_lay_l (F : Fix z) {G R : Int → Int} {n : Int} (hg : GR G R n) : ∀ (m x : Nat) (V : Vm), MG (V 436) G R n → x + m = 125 → Arr (V 448) (fl' (fitP G R n) x) → ∃ V', (∀ a, a ≠ 448 → V' a = V a) ∧ Arr (V' 448) (fl' (fitP G R n) 125) ∧ rX m_M_layFits m_M_layFits 4 [.ref 435, .int (iv (ln (fl' (fitP G R n) x))), .int (iv x), dd, dd] [] (em V J z) = some (.int (iv (ln (fl' (fitP G R n) 125))), em V' J z) := by
  intro m
  induction m with
  | zero =>
    intro x V hm hx hA
    have e : x = 125 := by omega
    subst e
    refine ⟨V, fun _ _ => rfl, hA, ?_⟩
    (rw [q_M_layFits_4]; simp (disch := first | decide | omega | (simp (disch := first | decide | omega) only [sv_s, sv_o, ur_s, ur_e, ur_o]; omega)) only [↓reduceIte, iv_add, iv_sub, iv_mul, iv_neg, iv_ltT, iv_ltF, iv_leT, iv_leF, iv_eqT, iv_eqF, iv_div, iv_mod, ↓bnI_s, ↓bnV_s, ↓bnJ_s, ↓bnR_s, rt_e, rt_0, rt_bz, sv_s, sv_o, ur_s, ur_e, ur_o, bz_T, bz_F, nat_eqF, il_0, il_1, il_4, il_16, il_107, il_125])
  | succ m ih =>
    intro x V hm hx hA
    have len := ln_fl (fitP G R n) x
    have gn := hg.1
    have h4 := hm.1
    obtain ⟨b, b1, b2, b3⟩ := y_lay_i (J := J) F hg hm (k := ln (fl' (fitP G R n) x)) (r := x) (by omega) (by omega) n.toNat 0 1 (by omega) (by omega) (Or.inr rfl)
    have st : rX m_M_layFits m_M_layFits 4 [.ref 435, .int (iv (ln (fl' (fitP G R n) x))), .int (iv x), dd, dd] [] (em V J z) = rX m_M_layFits m_M_layFits 16 [.ref 435, .int (iv (ln (fl' (fitP G R n) x))), .int (iv x), .int (iv b), .int (iv (107 + 3 * n))] [] (em V J z) := by
      rw [← b3]
      (rw [q_M_layFits_4]; simp (disch := first | decide | omega | (simp (disch := first | decide | omega) only [sv_s, sv_o, ur_s, ur_e, ur_o]; omega)) only [↓reduceIte, iv_add, iv_sub, iv_mul, iv_neg, iv_ltT, iv_ltF, iv_leT, iv_leF, iv_eqT, iv_eqF, iv_div, iv_mod, ↓bnI_s, ↓bnV_s, ↓bnJ_s, ↓bnR_s, rt_e, rt_0, rt_bz, sv_s, sv_o, ur_s, ur_e, ur_o, bz_T, bz_F, nat_eqF, il_0, il_1, il_4, il_16, il_107, il_125])
      rfl
    rw [st]
    rcases b1 with rfl | rfl
    · have nf : ¬ fitP G R n x := fun q => by have := b2.mpr ⟨rfl, q⟩; omega
      obtain ⟨V', f1, f2, f3⟩ := ih (x + 1) V hm (by omega) (by rw [fl_F nf]; exact hA)
      refine ⟨V', f1, f2, ?_⟩
      rw [← f3, fl_F nf]
      (rw [q_M_layFits_16]; simp (disch := first | decide | omega | (simp (disch := first | decide | omega) only [sv_s, sv_o, ur_s, ur_e, ur_o]; omega)) only [↓reduceIte, iv_add, iv_sub, iv_mul, iv_neg, iv_ltT, iv_ltF, iv_leT, iv_leF, iv_eqT, iv_eqF, iv_div, iv_mod, ↓bnI_s, ↓bnV_s, ↓bnJ_s, ↓bnR_s, rt_e, rt_0, rt_bz, sv_s, sv_o, ur_s, ur_e, ur_o, bz_T, bz_F, nat_eqF, ↓gR_435_0 F, ↓gR_435_36 F, ↓lI_436 F, ↓lI_437 F, ↓lI_438 F, ↓lI_439 F, ↓lI_440 F, ↓lI_441 F, ↓lI_443 F, ↓lI_444 F, ↓lI_445 F, ↓lI_446 F, ↓lI_447 F, ↓lI_448 F, ↓lI_449 F, ↓lI_450 F, ↓sI_436 F, ↓sI_437 F, ↓sI_438 F, ↓sI_439 F, ↓sI_440 F, ↓sI_441 F, ↓sI_443 F, ↓sI_444 F, ↓sI_445 F, ↓sI_446 F, ↓sI_447 F, ↓sI_448 F, ↓sI_449 F, ↓sI_450 F, il_0, il_1, il_2, il_3, il_4, il_10, il_11, il_16, il_36, il_107, hm.1, Int.natCast_add, Int.natCast_one])
    · have nf : fitP G R n x := (b2.mp rfl).2
      obtain ⟨V', f1, f2, f3⟩ := ih (x + 1) (sv V 448 (ln (fl' (fitP G R n) x)) x) (by simp (disch := first | decide | omega | (simp (disch := first | decide | omega) only [sv_s, sv_o, ur_s, ur_e, ur_o]; omega)) only [↓reduceIte, iv_add, iv_sub, iv_mul, iv_neg, iv_ltT, iv_ltF, iv_leT, iv_leF, iv_eqT, iv_eqF, iv_div, iv_mod, ↓bnI_s, ↓bnV_s, ↓bnJ_s, ↓bnR_s, rt_e, rt_0, rt_bz, sv_s, sv_o, ur_s, ur_e, ur_o, bz_T, bz_F, nat_eqF]; exact hm) (by omega) (by simp (disch := first | decide | omega | (simp (disch := first | decide | omega) only [sv_s, sv_o, ur_s, ur_e, ur_o]; omega)) only [↓reduceIte, iv_add, iv_sub, iv_mul, iv_neg, iv_ltT, iv_ltF, iv_leT, iv_leF, iv_eqT, iv_eqF, iv_div, iv_mod, ↓bnI_s, ↓bnV_s, ↓bnJ_s, ↓bnR_s, rt_e, rt_0, rt_bz, sv_s, sv_o, ur_s, ur_e, ur_o, bz_T, bz_F, nat_eqF]; rw [fl_T nf]; exact Arr_app hA)
      refine ⟨V', fun a ha => (f1 a ha).trans (sv_o ha), f2, ?_⟩
      rw [← f3, fl_T nf, ln_app]
      (rw [q_M_layFits_16]; simp (disch := first | decide | omega | (simp (disch := first | decide | omega) only [sv_s, sv_o, ur_s, ur_e, ur_o]; omega)) only [↓reduceIte, iv_add, iv_sub, iv_mul, iv_neg, iv_ltT, iv_ltF, iv_leT, iv_leF, iv_eqT, iv_eqF, iv_div, iv_mod, ↓bnI_s, ↓bnV_s, ↓bnJ_s, ↓bnR_s, rt_e, rt_0, rt_bz, sv_s, sv_o, ur_s, ur_e, ur_o, bz_T, bz_F, nat_eqF, ↓gR_435_0 F, ↓gR_435_36 F, ↓lI_436 F, ↓lI_437 F, ↓lI_438 F, ↓lI_439 F, ↓lI_440 F, ↓lI_441 F, ↓lI_443 F, ↓lI_444 F, ↓lI_445 F, ↓lI_446 F, ↓lI_447 F, ↓lI_448 F, ↓lI_449 F, ↓lI_450 F, ↓sI_436 F, ↓sI_437 F, ↓sI_438 F, ↓sI_439 F, ↓sI_440 F, ↓sI_441 F, ↓sI_443 F, ↓sI_444 F, ↓sI_445 F, ↓sI_446 F, ↓sI_447 F, ↓sI_448 F, ↓sI_449 F, ↓sI_450 F, il_0, il_1, il_2, il_3, il_4, il_10, il_11, il_16, il_36, il_107, hm.1, Int.natCast_add, Int.natCast_one])
theorem y_lay (F : Fix z) {G R : Int → Int} {n : Int} (hg : GR G R n) (hm : MG (V 436) G R n) : ∃ V', (∀ a, a ≠ 448 → V' a = V a) ∧ Arr (V' 448) (fl' (fitP G R n) 125) ∧ cA m_M_layFits [.ref 435] (em V J z) = some (.int (iv (ln (fl' (fitP G R n) 125))), em V' J z) := by
  obtain ⟨V', f1, f2, f3⟩ := y_lay_l (J := J) F hg 125 0 V hm (by omega) (Arr_nil _)
  refine ⟨V', f1, f2, ?_⟩
  rw [← f3]
  simp (disch := first | decide | omega | (simp (disch := first | decide | omega) only [sv_s, sv_o, ur_s, ur_e, ur_o]; omega)) only [↓reduceIte, iv_add, iv_sub, iv_mul, iv_neg, iv_ltT, iv_ltF, iv_leT, iv_leF, iv_eqT, iv_eqF, iv_div, iv_mod, ↓bnI_s, ↓bnV_s, ↓bnJ_s, ↓bnR_s, rt_e, rt_0, rt_bz, sv_s, sv_o, ur_s, ur_e, ur_o, bz_T, bz_F, nat_eqF, ↓q_M_layFits, ↓gd_435 F, il_0, il_1, il_4, il_27]
  rfl
theorem Gue.gr {V : Vm} (h : Gue V 9 (V 436)) : V 21 2 = V 436 4 ∧ GR (V 22) (V 23) (V 436 4) := by
  obtain ⟨h1, h2, h3⟩ := h
  refine ⟨h1, h2, fun j j0 j1 => ?_⟩
  obtain ⟨a1, a2, a3, a4, a5⟩ := h3 j j0 j1
  have a1 : V 22 j = V 436 (107 + 3 * j) := a1
  have a2 : V 23 j = 10 * V 436 (108 + 3 * j) + V 436 (109 + 3 * j) := a2
  omega
theorem Gue.mg {V V1 : Vm} (h : Gue V 9 (V 436)) (c : V1 436 = V 436) : MG (V1 436) (V 22) (V 23) (V 436 4) := by
  rw [c]
  refine ⟨rfl, fun j j0 j1 => ?_⟩
  obtain ⟨a1, a2, a3, a4, a5⟩ := h.2.2 j j0 j1
  have a1 : V 22 j = V 436 (107 + 3 * j) := a1
  have a2 : V 23 j = 10 * V 436 (108 + 3 * j) + V 436 (109 + 3 * j) := a2
  rw [show 107 + 3 * j + 1 = 108 + 3 * j by omega, show 107 + 3 * j + 2 = 109 + 3 * j by omega]
  exact ⟨a1.symm, a2.symm, a4, a5⟩
theorem core_2 {V V' : Vm} {p q : Nat} (h : ∀ a, a ≠ p → a ≠ q → V' a = V a) (hp : ∀ k, scr p k = true) (hq : ∀ k, scr q k = true) : core V' = core V := core_ext fun a k hs => by
  by_cases e : a = p
  · rw [e, hp] at hs; cases hs
  · by_cases e2 : a = q
    · rw [e2, hq] at hs; cases hs
    · rw [h a e e2]
theorem p_fits (F : Fix z) (M : Mrk V) (hG : Gue V 9 (V 436)) : Pq V J z (fun h => cA m_X_fits [.ref 8] h) (fun h => cA m_M_fits [.ref 435] h) := by
  obtain ⟨g1, g2⟩ := hG.gr
  obtain ⟨V1, f1, f2, f3, f4⟩ := y_sift (J := J) F M g2 g1
  obtain ⟨V2, k1, k2, k3⟩ := y_lay (V := V1) (J := J) F g2 (hG.mg (f1 436 (by decide) (by decide)))
  have c1 : core V1 = core V := core_2 f1 (fun k => scr_T (by omega)) (fun k => scr_T (by omega))
  have c2 : core V2 = core V1 := core_2 (fun a ha _ => k1 a ha) (fun k => scr_T (by omega)) (fun k => scr_T (a := 448) (by omega))
  have len := ln_fl (fitP (V 22) (V 23) (V 436 4)) 125
  exact ⟨_, V1, J, V2, J, (by simp (disch := first | decide | omega | (simp (disch := first | decide | omega) only [sv_s, sv_o, ur_s, ur_e, ur_o]; omega)) only [↓reduceIte, iv_add, iv_sub, iv_mul, iv_neg, iv_ltT, iv_ltF, iv_leT, iv_leF, iv_eqT, iv_eqF, iv_div, iv_mod, ↓bnI_s, ↓bnV_s, ↓bnJ_s, ↓bnR_s, rt_e, rt_0, rt_bz, sv_s, sv_o, ur_s, ur_e, ur_o, bz_T, bz_F, nat_eqF, ↓q_X_fits, ↓gR_8_8 F, ↓gR_8_0 F, ↓gR_9_6 F, ↓gI_431_3 F, ↓gd_8 F, il_0, il_1, il_2, il_3, il_6, il_8, il_10, il_26, f4, f2]; rfl), c1, (by simp (disch := first | decide | omega | (simp (disch := first | decide | omega) only [sv_s, sv_o, ur_s, ur_e, ur_o]; omega)) only [↓reduceIte, iv_add, iv_sub, iv_mul, iv_neg, iv_ltT, iv_ltF, iv_leT, iv_leF, iv_eqT, iv_eqF, iv_div, iv_mod, ↓bnI_s, ↓bnV_s, ↓bnJ_s, ↓bnR_s, rt_e, rt_0, rt_bz, sv_s, sv_o, ur_s, ur_e, ur_o, bz_T, bz_F, nat_eqF, ↓q_M_fits, ↓gd_435 F, il_0, il_1, il_27, k3]), c2.trans c1⟩
theorem p_fit (F : Fix z) (M : Mrk V) (hG : Gue V 9 (V 436)) {i : Int} (hi : (-2147483648 ≤ i ∧ i < 2147483648)) : Pq V J z (fun h => cA m_X_fit [.ref 8, .int (iv i)] h) (fun h => cA m_M_fit [.ref 435, .int (iv i)] h) := by
  obtain ⟨g1, g2⟩ := hG.gr
  obtain ⟨V1, f1, f2, f3, f4⟩ := y_sift (J := J) F M g2 g1
  obtain ⟨V2, k1, k2, k3⟩ := y_lay (V := V1) (J := J) F g2 (hG.mg (f1 436 (by decide) (by decide)))
  have c1 : core V1 = core V := core_2 f1 (fun k => scr_T (by omega)) (fun k => scr_T (by omega))
  have c2 : core V2 = core V1 := core_2 (fun a ha _ => k1 a ha) (fun k => scr_T (by omega)) (fun k => scr_T (a := 448) (by omega))
  have len := ln_fl (fitP (V 22) (V 23) (V 436 4)) 125
  by_cases h : 0 ≤ i ∧ i ≤ ln (fl' (fitP (V 22) (V 23) (V 436 4)) 125) - 1
  · obtain ⟨i, rfl⟩ := Int.eq_ofNat_of_zero_le h.1
    have el : ln (fl' (fitP (V 22) (V 23) (V 436 4)) 125) = ((fl' (fitP (V 22) (V 23) (V 436 4)) 125).length : Int) := rfl
    have e1 := f3 i (by omega)
    have e2 := k2 i (by omega)
    exact ⟨_, V1, J, V2, J, (by simp (disch := first | decide | omega | (simp (disch := first | decide | omega) only [sv_s, sv_o, ur_s, ur_e, ur_o]; omega)) only [↓reduceIte, iv_add, iv_sub, iv_mul, iv_neg, iv_ltT, iv_ltF, iv_leT, iv_leF, iv_eqT, iv_eqF, iv_div, iv_mod, ↓bnI_s, ↓bnV_s, ↓bnJ_s, ↓bnR_s, rt_e, rt_0, rt_bz, sv_s, sv_o, ur_s, ur_e, ur_o, bz_T, bz_F, nat_eqF, ↓q_X_fit, ↓gR_8_8 F, ↓gR_8_0 F, ↓gR_9_6 F, ↓gI_431_3 F, ↓gR_431_1 F, ↓gd_8 F, il_0, il_1, il_2, il_3, il_6, il_8, il_10, il_26, f4, f2, y_within, y_get (s_433 F) (by decide), rd_in, e1]; rfl), c1, (by simp (disch := first | decide | omega | (simp (disch := first | decide | omega) only [sv_s, sv_o, ur_s, ur_e, ur_o]; omega)) only [↓reduceIte, iv_add, iv_sub, iv_mul, iv_neg, iv_ltT, iv_ltF, iv_leT, iv_leF, iv_eqT, iv_eqF, iv_div, iv_mod, ↓bnI_s, ↓bnV_s, ↓bnJ_s, ↓bnR_s, rt_e, rt_0, rt_bz, sv_s, sv_o, ur_s, ur_e, ur_o, bz_T, bz_F, nat_eqF, ↓q_M_fit, ↓gR_435_36 F, ↓lI_436 F, ↓lI_437 F, ↓lI_438 F, ↓lI_439 F, ↓lI_440 F, ↓lI_441 F, ↓lI_443 F, ↓lI_444 F, ↓lI_445 F, ↓lI_446 F, ↓lI_447 F, ↓lI_448 F, ↓lI_449 F, ↓lI_450 F, ↓gd_435 F, il_0, il_1, il_11, il_27, il_36, k3, y_isIn, e2]), c2.trans c1⟩
  · exact ⟨-1, V1, J, V2, J, (by simp (disch := first | decide | omega | (simp (disch := first | decide | omega) only [sv_s, sv_o, ur_s, ur_e, ur_o]; omega)) only [↓reduceIte, iv_add, iv_sub, iv_mul, iv_neg, iv_ltT, iv_ltF, iv_leT, iv_leF, iv_eqT, iv_eqF, iv_div, iv_mod, ↓bnI_s, ↓bnV_s, ↓bnJ_s, ↓bnR_s, rt_e, rt_0, rt_bz, sv_s, sv_o, ur_s, ur_e, ur_o, bz_T, bz_F, nat_eqF, ↓q_X_fit, ↓gR_8_8 F, ↓gR_8_0 F, ↓gR_9_6 F, ↓gI_431_3 F, ↓gR_431_1 F, ↓gd_8 F, il_0, il_1, il_2, il_3, il_6, il_8, il_10, il_26, f4, f2, y_within]), c1, (by simp (disch := first | decide | omega | (simp (disch := first | decide | omega) only [sv_s, sv_o, ur_s, ur_e, ur_o]; omega)) only [↓reduceIte, iv_add, iv_sub, iv_mul, iv_neg, iv_ltT, iv_ltF, iv_leT, iv_leF, iv_eqT, iv_eqF, iv_div, iv_mod, ↓bnI_s, ↓bnV_s, ↓bnJ_s, ↓bnR_s, rt_e, rt_0, rt_bz, sv_s, sv_o, ur_s, ur_e, ur_o, bz_T, bz_F, nat_eqF, ↓q_M_fit, ↓gR_435_36 F, ↓lI_436 F, ↓lI_437 F, ↓lI_438 F, ↓lI_439 F, ↓lI_440 F, ↓lI_441 F, ↓lI_443 F, ↓lI_444 F, ↓lI_445 F, ↓lI_446 F, ↓lI_447 F, ↓lI_448 F, ↓lI_449 F, ↓lI_450 F, ↓gd_435 F, il_0, il_1, il_11, il_27, il_36, k3, y_isIn]), c2.trans c1⟩
end
