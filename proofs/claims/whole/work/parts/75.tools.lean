/-! a dinner: its tools -/
/-- the model's row is the row A; ahead of time (w = 0) all but THE BOOK, which stays B -/
def RW (w : Int) (B : Int → Int) (U : Vm) (A : Int → Int) : Prop := (∀ k, (w = 1 ∨ ¬ (1425 ≤ k ∧ k < 1450)) → U 436 k = A k) ∧ (w = 0 → ∀ k, 1425 ≤ k → k < 1450 → U 436 k = B k)
/-- what a dinner leaves of the class's memory, and of the row -/
def frT (t : Nat) (V V' : Vm) : Prop := (∀ a, a ≠ 418 → ¬ (t ≤ a ∧ a < t + 6) → V' a = V a) ∧ V' t 5 = V t 5 ∧ V' (t + 1) = V (t + 1)
def rfP (A A' : Int → Int) : Prop := ∀ k, k < 7 ∨ k = 10 ∨ (17 ≤ k ∧ k < 1425) ∨ 1450 ≤ k → A' k = A k
theorem frT.rfl_ {t : Nat} {V : Vm} : frT t V V := ⟨fun _ _ _ => rfl, rfl, rfl⟩
theorem frT.tr {t : Nat} {V V' V'' : Vm} (h : frT t V V') (h' : frT t V' V'') : frT t V V'' := ⟨fun a h1 h2 => (h'.1 a h1 h2).trans (h.1 a h1 h2), h'.2.1.trans h.2.1, h'.2.2.trans h.2.2⟩
theorem rfP.rfl_ {A : Int → Int} : rfP A A := fun _ _ => rfl
theorem rfP.tr {A A' A'' : Int → Int} (h : rfP A A') (h' : rfP A' A'') : rfP A A'' := fun k hk => (h' k hk).trans (h k hk)
section
variable {A A' : Int → Int} {V V' J : Vm} {z : Zz} {t : Nat}
theorem wt_c (h : ∀ k, 17 ≤ k → k < 23 → A' k = A k) {s : Int} : ∀ (m : Nat) (k : Int), 0 ≤ k → k + m ≤ 5 → wt A' s m k = wt A s m k := by
  intro m
  induction m with
  | zero => intro k _ _; rfl
  | succ m ih =>
    intro k k0 hk
    show (if A' (17 + k) = s then k else wt A' s m (k + 1)) = (if A (17 + k) = s then k else wt A s m (k + 1))
    rw [h (17 + k) (by omega) (by omega), ih (k + 1) (by omega) (by omega)]
theorem wat_c (h : ∀ k, 17 ≤ k → k < 23 → A' k = A k) {s : Int} : wat A' s = wat A s := wt_c h 5 0 (by omega) (by omega)
theorem fur_c (h : ∀ k, 17 ≤ k → k < 23 → A' k = A k) (h0 : A' 0 = A 0) {k b : Int} (hk : 0 ≤ k ∧ k < 6) : fur A' k b = fur A k b := by
  unfold fur
  rw [h (17 + k) (by omega) (by omega), h0, wat_c h]
theorem PS_c (h : ∀ k, 17 ≤ k → k < 23 → A' k = A k) (h0 : A' 0 = A 0) (p : PS A) : PS A' := by
  obtain ⟨p1, p2, p3, p4⟩ := p
  unfold PS
  rw [h0]
  have e : ∀ k, 0 ≤ k → k < A 0 → A' (17 + k) = A (17 + k) := fun k k0 k1 => h _ (by omega) (by omega)
  refine ⟨p1, fun k k0 k1 => ?_, fun s s0 s1 => ?_, fun j k hj hk q => ?_⟩
  · rw [e k k0 k1]; exact p2 k k0 k1
  · obtain ⟨k, k0, k1, k2⟩ := p3 s s0 s1
    exact ⟨k, k0, k1, by rw [e k k0 k1]; exact k2⟩
  · rw [e j hj.1 hj.2, e k hk.1 hk.2] at q
    exact p4 j k hj hk q
theorem Kn.ps (h : Kn V t A) : PS A := Tr.ps h.2.1 h.2.2.2
theorem Kn_t (h : Kn V t A) (h5 : V' t 5 = V t 5) (h1 : V' (t + 1) = V (t + 1)) (a0 : A' 0 = A 0) (a : ∀ k, 23 ≤ k → k < 35 → A' k = A k) (x : Tr V' t (A 0) A') : Kn V' t A' := by
  obtain ⟨n1, n2, n3, n4⟩ := h
  unfold Kn
  rw [h5, h1, a0]
  refine ⟨n1, n2, fun k k0 k1 => ?_, x⟩
  rw [a _ (by omega) (by omega), a _ (by omega) (by omega)]
  exact n3 k k0 k1
theorem fur_n (p : PS A) {k : Int} (hk : 0 ≤ k ∧ k < A 0) : fur A k (A 0) = k := by
  have s := p.2.1 k hk.1 hk.2
  have e : (A (17 + k) + A 0) % A 0 = A (17 + k) := by rw [Int.add_emod_right, Int.emod_eq_of_lt s.1 s.2]
  unfold fur
  rw [e]
  have w := p.wt_ s
  exact p.inj w.1 hk w.2
theorem fur_0 (p : PS A) {k : Int} (hk : 0 ≤ k ∧ k < A 0) : fur A k 0 = k := by
  have s := p.2.1 k hk.1 hk.2
  have e : (A (17 + k) + 0) % A 0 = A (17 + k) := by rw [Int.add_zero, Int.emod_eq_of_lt s.1 s.2]
  unfold fur
  rw [e]
  have w := p.wt_ s
  exact p.inj w.1 hk w.2
theorem fur_seat (p : PS A) {k f : Int} (hk : 0 ≤ k ∧ k < A 0) : A (17 + fur A k f) = (A (17 + k) + f) % A 0 := by
  unfold fur
  exact (p.wt_ ⟨Int.emod_nonneg _ (by omega), Int.emod_lt_of_pos _ (by omega)⟩).2
theorem fur_1 (p : PS A) {k f : Int} (hk : 0 ≤ k ∧ k < A 0) (hf : 0 ≤ f) : fur A (fur A k f) 1 = fur A k (f + 1) := by
  have e := fur_seat p (f := f) hk
  show wat A ((A (17 + fur A k f) + 1) % A 0) = wat A ((A (17 + k) + (f + 1)) % A 0)
  rw [e, Int.emod_add_emod, Int.add_assoc]
theorem fur_ne (p : PS A) {k f : Int} (hk : 0 ≤ k ∧ k < A 0) (hf : 1 ≤ f ∧ f < A 0) : fur A k f ≠ k := by
  intro h
  have e := fur_seat p (f := f) hk
  rw [h] at e
  have s := p.2.1 k hk.1 hk.2
  by_cases q : A (17 + k) + f < A 0
  · rw [Int.emod_eq_of_lt (by omega) q] at e; omega
  · have e2 : (A (17 + k) + f) % A 0 = (A (17 + k) + f - A 0) % A 0 := by rw [Int.sub_emod_right]
    rw [e2, Int.emod_eq_of_lt (by omega) (by omega)] at e; omega
/-- one that the case slipped through, told -/
def ox (x k : Int) : Int := (iv x ||| (iv 1 <<< (iv k &&& iv 31))).toInt
theorem ox_iv {x k : Int} : iv x ||| (iv 1 <<< (iv k &&& iv 31)) = iv (ox x k) := (Int32.ofInt_toInt _).symm
theorem ox_n : ∀ x : Nat, x < 64 → ∀ k : Nat, k < 6 → 0 ≤ ox x k ∧ ox x k < 64 := by decide +kernel
theorem ox_r {x k : Int} (hx : 0 ≤ x ∧ x < 64) (hk : 0 ≤ k ∧ k < 6) : 0 ≤ ox x k ∧ ox x k < 64 := by
  obtain ⟨m, rfl⟩ := Int.eq_ofNat_of_zero_le hx.1
  obtain ⟨l, rfl⟩ := Int.eq_ofNat_of_zero_le hk.1
  exact ox_n m (by omega) l (by omega)
theorem y_draw (T : Tab z t) {x : Int} (e : V t 8 = x) (hx : 0 ≤ x ∧ x < 30971) : cA m_Table_draw [.ref t] (em V J z) = some (.int (iv x), em (sv V t 8 ((x * 673 + 547) % 30971)) J z) := by
  simp (disch := first | decide | omega | (simp (disch := first | decide | omega) only [sv_s, sv_o, ur_s, ur_e, ur_o]; omega)) only [↓reduceIte, iv_add, iv_sub, iv_mul, iv_neg, iv_ltT, iv_ltF, iv_leT, iv_leF, iv_eqT, iv_eqF, iv_div, iv_mod, ↓bnI_s, ↓bnV_s, ↓bnJ_s, ↓bnR_s, rt_e, rt_0, rt_bz, sv_s, sv_o, ur_s, ur_e, ur_o, bz_T, bz_F, nat_eqF, Nat.reduceAdd, ↓q_Table_draw, ↓gT_8 T, ↓pT_8 T, ↓gdT T, il_0, il_1, il_7, il_8, il_23, il_547, il_673, il_30971, e]
theorem y_anew (F : Fix z) {x : Int} (e : V 436 8 = x) (hx : 0 ≤ x ∧ x < 30971) : cA m_M_anew [.ref 435] (em V J z) = some (.null, em (sv V 436 8 ((x * 673 + 547) % 30971)) J z) := by
  simp (disch := first | decide | omega | (simp (disch := first | decide | omega) only [sv_s, sv_o, ur_s, ur_e, ur_o]; omega)) only [↓reduceIte, iv_add, iv_sub, iv_mul, iv_neg, iv_ltT, iv_ltF, iv_leT, iv_leF, iv_eqT, iv_eqF, iv_div, iv_mod, ↓bnI_s, ↓bnV_s, ↓bnJ_s, ↓bnR_s, rt_e, rt_0, rt_bz, sv_s, sv_o, ur_s, ur_e, ur_o, bz_T, bz_F, nat_eqF, Nat.reduceAdd, ↓q_M_anew, ↓gR_435_0 F, ↓lI_436 F, ↓lI_437 F, ↓lI_438 F, ↓lI_439 F, ↓lI_440 F, ↓lI_441 F, ↓lI_443 F, ↓lI_444 F, ↓lI_445 F, ↓lI_446 F, ↓lI_447 F, ↓lI_448 F, ↓lI_449 F, ↓lI_450 F, ↓sI_436 F, ↓sI_437 F, ↓sI_438 F, ↓sI_439 F, ↓sI_440 F, ↓sI_441 F, ↓sI_443 F, ↓sI_444 F, ↓sI_445 F, ↓sI_446 F, ↓sI_447 F, ↓sI_448 F, ↓sI_449 F, ↓sI_450 F, ↓gd_435 F, il_0, il_1, il_8, il_11, il_27, il_547, il_673, il_30971, e, iv_long, jl_673, jl_547, jl_30971, jv_mul, jv_add, jv_mod, jv_int]
theorem y_drawnBy (F : Fix z) {x : Int} (e : V 436 8 = x) (hx : 0 ≤ x ∧ x < 30971) : cA m_M_drawnBy [.ref 435, .int (iv 10)] (em V J z) = some (.int (iv (x % 10)), em (sv V 436 8 ((x * 673 + 547) % 30971)) J z) := by
  simp (disch := first | decide | omega | (simp (disch := first | decide | omega) only [sv_s, sv_o, ur_s, ur_e, ur_o]; omega)) only [↓reduceIte, iv_add, iv_sub, iv_mul, iv_neg, iv_ltT, iv_ltF, iv_leT, iv_leF, iv_eqT, iv_eqF, iv_div, iv_mod, ↓bnI_s, ↓bnV_s, ↓bnJ_s, ↓bnR_s, rt_e, rt_0, rt_bz, sv_s, sv_o, ur_s, ur_e, ur_o, bz_T, bz_F, nat_eqF, Nat.reduceAdd, ↓q_M_drawnBy, ↓gR_435_0 F, ↓lI_436 F, ↓lI_437 F, ↓lI_438 F, ↓lI_439 F, ↓lI_440 F, ↓lI_441 F, ↓lI_443 F, ↓lI_444 F, ↓lI_445 F, ↓lI_446 F, ↓lI_447 F, ↓lI_448 F, ↓lI_449 F, ↓lI_450 F, ↓gd_435 F, il_0, il_1, il_8, il_11, il_27, e, y_anew F e hx]
theorem y_whoAtA (F : Fix z) (p : PS A) (h0 : V 436 0 = A 0) (h : ∀ k, 17 ≤ k → k < 23 → V 436 k = A k) {s : Int} (hs : 0 ≤ s ∧ s < A 0) : cA m_M_whoAt [.ref 435, .int (iv s)] (em V J z) = some (.int (iv (wat A s)), em V J z) := by
  rw [y_whoAt F (PS_c h h0 p) (by omega), wat_c h]
theorem y_furtherA (F : Fix z) (p : PS A) (h0 : V 436 0 = A 0) (h : ∀ k, 17 ≤ k → k < 23 → V 436 k = A k) {k b : Int} (hk : 0 ≤ k ∧ k < A 0) (hb : 0 ≤ b ∧ b ≤ 100) : cA m_M_further [.ref 435, .int (iv k), .int (iv b)] (em V J z) = some (.int (iv (fur A k b)), em V J z) := by
  have p6 := p.1
  rw [y_further F (PS_c h h0 p) (by omega) hb, fur_c h h0 (by omega)]
theorem y_acrossA (F : Fix z) (p : PS A) (h0 : V 436 0 = A 0) (h : ∀ k, 17 ≤ k → k < 23 → V 436 k = A k) {k : Int} (hk : 0 ≤ k ∧ k < A 0) : cA m_M_acrossOf [.ref 435, .int (iv k)] (em V J z) = some (.int (iv (fur A k (A 0 / 2))), em V J z) := by
  have p6 := p.1
  rw [y_acrossOf F (PS_c h h0 p) (by omega), h0, fur_c h h0 (by omega)]
end
