/-! TOKENS, as the model cuts them -/
theorem jv_nat (n : Nat) : jv (n : Int) = Int64.ofNat n := Int64.ofInt_eq_ofNat
theorem jshl_n {a c : Nat} (ha : a < 36028797018963968) (hc : c < 256) : (jv (a : Int) <<< ((8 : Int32).toInt64 &&& 63)) ||| jv (c : Int) = jv ((256 * a + c : Nat) : Int) := by
  have e8 : ((8 : Int32).toInt64 &&& 63) = (8 : Int64) := by decide
  rw [e8, jv_nat, jv_nat, jv_nat]
  apply Int64.toBitVec.inj
  rw [Int64.toBitVec_or, Int64.toBitVec_shiftLeft]
  have e : (Int64.toBitVec 8).smod 64 = 8#64 := by decide
  rw [e]
  have o : ∀ n, (Int64.ofNat n).toBitVec = BitVec.ofNat 64 n := fun n => rfl
  rw [o, o, o, BitVec.shiftLeft_eq']
  apply BitVec.eq_of_toNat_eq
  rw [BitVec.toNat_or, BitVec.toNat_shiftLeft, BitVec.toNat_ofNat, BitVec.toNat_ofNat, BitVec.toNat_ofNat, BitVec.toNat_ofNat]
  rw [Nat.mod_eq_of_lt (show 8 < 2 ^ 64 by omega), Nat.mod_eq_of_lt (show a < 2 ^ 64 by omega), Nat.mod_eq_of_lt (show c < 2 ^ 64 by omega), Nat.mod_eq_of_lt (show 256 * a + c < 2 ^ 64 by omega), Nat.shiftLeft_eq, Nat.mod_eq_of_lt (show a * 2 ^ 8 < 2 ^ 64 by omega)]
  rw [Nat.mul_comm a, ← Nat.two_pow_add_eq_or_of_lt (show c < 2 ^ 8 by omega)]
theorem jshr_n {a : Nat} (ha : a < 9223372036854775808) : jv (a : Int) >>> ((48 : Int32).toInt64 &&& 63) = jv ((a / 281474976710656 : Nat) : Int) := by
  have e8 : ((48 : Int32).toInt64 &&& 63) = (48 : Int64) := by decide
  rw [e8, jv_nat, jv_nat]
  apply Int64.toBitVec.inj
  rw [Int64.toBitVec_shiftRight]
  have e : (Int64.toBitVec 48).smod 64 = 48#64 := by decide
  rw [e]
  have o : ∀ n, (Int64.ofNat n).toBitVec = BitVec.ofNat 64 n := fun n => rfl
  rw [o, o]
  have m : (BitVec.ofNat 64 a).msb = false := by
    rw [BitVec.msb_eq_decide, BitVec.toNat_ofNat, Nat.mod_eq_of_lt (by omega)]
    exact decide_eq_false (by omega)
  apply BitVec.eq_of_toNat_eq
  show ((BitVec.ofNat 64 a).sshiftRight 48).toNat = _
  rw [BitVec.sshiftRight_eq_of_msb_false m, BitVec.toNat_ushiftRight, BitVec.toNat_ofNat, BitVec.toNat_ofNat, Nat.mod_eq_of_lt (show a < 2 ^ 64 by omega), Nat.shiftRight_eq_div_pow, Nat.mod_eq_of_lt (by omega)]
theorem jshl {a c : Int} (ha : 0 ≤ a ∧ a < 36028797018963968) (hc : 0 ≤ c ∧ c < 256) : (jv a <<< ((8 : Int32).toInt64 &&& 63)) ||| jv c = jv (256 * a + c) := by
  have q := jshl_n (a := a.toNat) (c := c.toNat) (by omega) (by omega)
  rw [show ((a.toNat : Nat) : Int) = a by omega, show ((c.toNat : Nat) : Int) = c by omega, show ((256 * a.toNat + c.toNat : Nat) : Int) = 256 * a + c by omega] at q
  exact q
theorem jshr {a : Int} (ha : 0 ≤ a ∧ a < 9223372036854775808) : jv a >>> ((48 : Int32).toInt64 &&& 63) = jv (a / 281474976710656) := by
  have q := jshr_n (a := a.toNat) (by omega)
  rw [show ((a.toNat : Nat) : Int) = a by omega, show ((a.toNat / 281474976710656 : Nat) : Int) = a / 281474976710656 by omega] at q
  exact q
/-- letters packed, as the model does -/
def wvS (a c : Int) : Int := if a < 281474976710656 then 256 * a + c else 1152921504606846976
def wv (w : List Int) : Int := w.foldl wvS 0
def wvR : List Int → Int
  | [] => 0
  | c :: r => wvS (wvR r) c
theorem wv_R (w : List Int) : wv w = wvR w.reverse := by
  have h : ∀ r : List Int, wvR r = r.foldr (fun c a => wvS a c) 0 := by
    intro r
    induction r with
    | nil => rfl
    | cons c r ih => show wvS (wvR r) c = wvS (r.foldr (fun c a => wvS a c) 0) c; rw [ih]
  rw [h, List.foldr_reverse]; rfl
theorem wvR_b : ∀ r : List Int, (∀ x ∈ r, 0 < x ∧ x < 256) → 0 ≤ wvR r ∧ wvR r < 72057594037927936 ∨ wvR r = 1152921504606846976 := by
  intro r
  induction r with
  | nil => exact fun _ => Or.inl (by decide)
  | cons c r ih =>
    intro h
    have i := ih (fun x hx => h x (List.mem_cons_of_mem _ hx))
    have c0 := h c List.mem_cons_self
    show 0 ≤ wvS (wvR r) c ∧ wvS (wvR r) c < 72057594037927936 ∨ wvS (wvR r) c = 1152921504606846976
    unfold wvS
    split <;> omega
theorem wvR_s : ∀ r : List Int, (∀ x ∈ r, 0 < x ∧ x < 256) → r.length ≤ 6 → 0 ≤ wvR r ∧ wvR r < (256 ^ r.length : Nat) := by
  intro r
  induction r with
  | nil => exact fun _ _ => by decide
  | cons c r ih =>
    intro h l
    have l2 : r.length + 1 ≤ 6 := l
    have i := ih (fun x hx => h x (List.mem_cons_of_mem _ hx)) (by omega)
    have c0 := h c List.mem_cons_self
    have p : (256 ^ r.length : Nat) ≤ 256 ^ 5 := Nat.pow_le_pow_right (by decide) (by omega)
    have p2 : (256 ^ (r.length + 1) : Nat) = 256 ^ r.length * 256 := rfl
    show 0 ≤ wvS (wvR r) c ∧ wvS (wvR r) c < (256 ^ (r.length + 1) : Nat)
    rw [p2]
    generalize 256 ^ r.length = q at *
    unfold wvS
    rw [if_pos (by omega)]
    omega
theorem wvR_inj : ∀ u r : List Int, (∀ x ∈ u, 0 < x ∧ x < 256) → (∀ x ∈ r, 0 < x ∧ x < 256) → u.length ≤ 6 → wvR r = wvR u → r = u := by
  intro u
  induction u with
  | nil =>
    intro r _ hr _ e
    cases r with
    | nil => rfl
    | cons c r =>
      have i := wvR_b r (fun x hx => hr x (List.mem_cons_of_mem _ hx))
      have c0 := hr c List.mem_cons_self
      have e2 : wvS (wvR r) c = 0 := e
      unfold wvS at e2
      split at e2 <;> omega
  | cons d u ih =>
    intro r hu hr l e
    have l2 : u.length + 1 ≤ 6 := l
    have s := wvR_s u (fun x hx => hu x (List.mem_cons_of_mem _ hx)) (by omega)
    have d0 := hu d List.mem_cons_self
    have p : (256 ^ u.length : Nat) ≤ 256 ^ 5 := Nat.pow_le_pow_right (by decide) (by omega)
    have eu : wvR (d :: u) = 256 * wvR u + d := by
      show wvS (wvR u) d = _
      unfold wvS
      rw [if_pos (by omega)]
    rw [eu] at e
    cases r with
    | nil =>
      have e2 : (0 : Int) = 256 * wvR u + d := e
      omega
    | cons c r =>
      have i := wvR_b r (fun x hx => hr x (List.mem_cons_of_mem _ hx))
      have c0 := hr c List.mem_cons_self
      have e2 : wvS (wvR r) c = 256 * wvR u + d := e
      unfold wvS at e2
      split at e2
      · have e3 : wvR r = wvR u := by omega
        have e4 : c = d := by omega
        rw [ih r (fun x hx => hu x (List.mem_cons_of_mem _ hx)) (fun x hx => hr x (List.mem_cons_of_mem _ hx)) (by omega) e3, e4]
      · omega
theorem wv_inj {u w : List Int} (hu : ∀ x ∈ u, 0 < x ∧ x < 256) (hw : ∀ x ∈ w, 0 < x ∧ x < 256) (l : u.length ≤ 6) (e : wv w = wv u) : u = w := by
  rw [wv_R, wv_R] at e
  have q := wvR_inj u.reverse w.reverse (fun x hx => hu x (List.mem_reverse.mp hx)) (fun x hx => hw x (List.mem_reverse.mp hx)) (by rw [List.length_reverse]; exact l) e
  rw [← List.reverse_reverse u, ← q, List.reverse_reverse]
theorem wv_rg {w : List Int} (hw : ∀ x ∈ w, 0 < x ∧ x < 256) : 0 ≤ wv w ∧ wv w < 2000000000000000000 := by
  have q := wvR_b w.reverse (fun x hx => hw x (List.mem_reverse.mp hx))
  rw [← wv_R] at q
  omega
theorem WL_len : ∀ i, i < 25 → 0 < i → (WL.getD i []).length ≤ 6 := by decide
theorem WL_ab {i : Nat} (hi : i < 25) : ∀ x ∈ WL.getD i [], 0 < x ∧ x < 256 := fun x hx => by have := (WB_at hi).2.2.2.2.1 x hx; omega
theorem wv_is {w : List Int} {k : Int} (h : WK w k) (hw : ∀ x ∈ w, 0 < x ∧ x < 256) {i : Nat} (h0 : 0 < i) (hi : i < 25) : wv w = wv (WL.getD i []) ↔ k = i := by
  rw [← h.is hi]
  exact ⟨fun e => wv_inj (WL_ab hi) hw (WL_len i hi h0) e, fun e => by rw [e]⟩
/-- the token at hand of the model -/
def sgT (k t : Int) : Prop := (k = 25 ∧ t = 60) ∨ (k = 26 ∧ t = 62) ∨ (k = 27 ∧ t = 61) ∨ (k = 28 ∧ t = 35) ∨ (k = 29 ∧ t = 43) ∨ (k = 30 ∧ t = 45) ∨ (k = 31 ∧ t = 42) ∨ (k = 32 ∧ t = 47) ∨ (k = 33 ∧ t = 40) ∨ (k = 34 ∧ t = 41) ∨ (k = 35 ∧ t = 59) ∨ (k = 36 ∧ t = 4) ∨ (k = 37 ∧ t = 5) ∨ (k = 39 ∧ (t = 3 ∨ t = 58))
def MT (U K : Vm) (b : Int → Int) (p k e v : Int) : Prop := U 435 7 = e ∧ U 435 8 = p ∧ ((k = 40 ∧ U 435 9 = 0) ∨ (k = 38 ∧ U 435 9 = 1 ∧ NR v (U 435 10)) ∨ (U 435 9 = 2 ∧ WK (fwl b p (e - p).toNat) k ∧ (∀ x ∈ fwl b p (e - p).toNat, 0 < x ∧ x < 256) ∧ K 435 11 = wv (fwl b p (e - p).toNat) ∧ p ≤ e) ∨ sgT k (U 435 9))
def B2 (U : Vm) (b : Int → Int) (n : Int) : Prop := U 435 4 = n ∧ (∀ j, 0 ≤ j → j < n → U 439 j = b j) ∧ (0 ≤ n ∧ n ≤ 300) ∧ ∀ j, 0 ≤ j → j < n → 0 ≤ b j ∧ b j < 256
/-- what cutting touches -/
def frN (U U' : Vm) : Prop := (∀ a, a ≠ 435 → U' a = U a) ∧ ∀ j, j ≠ 7 → j ≠ 8 → j ≠ 9 → j ≠ 10 → U' 435 j = U 435 j
theorem frN.rfl_ {U : Vm} : frN U U := ⟨fun _ _ => rfl, fun _ _ _ _ _ => rfl⟩
theorem frN.tr {U U' U'' : Vm} (h : frN U U') (h' : frN U' U'') : frN U U'' := ⟨fun a ha => (h'.1 a ha).trans (h.1 a ha), fun j h1 h2 h3 h4 => (h'.2 j h1 h2 h3 h4).trans (h.2 j h1 h2 h3 h4)⟩
theorem frN.b2 {U U' : Vm} {b : Int → Int} {n : Int} (h : frN U U') (B : B2 U b n) : B2 U' b n := by
  obtain ⟨b1, b2, b3, b4⟩ := B
  unfold B2
  rw [h.1 439 (by decide), h.2 4 (by decide) (by decide) (by decide) (by decide)]
  exact ⟨b1, b2, b3, b4⟩
theorem frN.w {U : Vm} {j x : Int} (h : j = 7 ∨ j = 8 ∨ j = 9 ∨ j = 10) : frN U (sv U 435 j x) := ⟨fun a ha => by simp (disch := first | decide | omega | (simp (disch := first | decide | omega) only [sv_s, sv_o, ur_s, ur_e, ur_o]; omega)) only [↓reduceIte, iv_add, iv_sub, iv_mul, iv_neg, iv_ltT, iv_ltF, iv_leT, iv_leF, iv_eqT, iv_eqF, iv_div, iv_mod, ↓bnI_s, ↓bnV_s, ↓bnJ_s, ↓bnR_s, rt_e, rt_0, rt_bz, sv_s, sv_o, ur_s, ur_e, ur_o, bz_T, bz_F, nat_eqF, Nat.reduceAdd], fun i h1 h2 h3 h4 => by simp (disch := first | decide | omega | (simp (disch := first | decide | omega) only [sv_s, sv_o, ur_s, ur_e, ur_o]; omega)) only [↓reduceIte, iv_add, iv_sub, iv_mul, iv_neg, iv_ltT, iv_ltF, iv_leT, iv_leF, iv_eqT, iv_eqF, iv_div, iv_mod, ↓bnI_s, ↓bnV_s, ↓bnJ_s, ↓bnR_s, rt_e, rt_0, rt_bz, sv_s, sv_o, ur_s, ur_e, ur_o, bz_T, bz_F, nat_eqF, Nat.reduceAdd]⟩
theorem fwl_mem (b : Int → Int) {P : Int → Prop} : ∀ (m : Nat) (p : Int), (∀ j, p ≤ j → j < p + m → P (b j)) → ∀ x ∈ fwl b p m, P x := by
  intro m
  induction m with
  | zero => intro p h x hx; exact absurd hx (by simp [fwl])
  | succ m ih =>
    intro p h x hx
    rcases List.mem_cons.mp hx with e | e
    · rw [e]; exact h p (by omega) (by omega)
    · exact ih (p + 1) (fun j j0 j1 => h j (by omega) (by omega)) x e
section
variable {U K : Vm} {z : Zz} {b : Int → Int} {n : Int}
theorem y_M_byteAt (F : Fix z) (B : B2 U b n) {i : Int} (hi : 0 ≤ i ∧ i < n) : cA m_M_byteAt [.ref 435, .int (iv i)] (em U K z) = some (.int (iv (b i)), em U K z) := by
  obtain ⟨b1, b2, b3, b4⟩ := B
  have e := b2 i hi.1 hi.2
  simp (disch := first | decide | omega | (simp (disch := first | decide | omega) only [sv_s, sv_o, ur_s, ur_e, ur_o]; omega)) only [↓reduceIte, iv_add, iv_sub, iv_mul, iv_neg, iv_ltT, iv_ltF, iv_leT, iv_leF, iv_eqT, iv_eqF, iv_div, iv_mod, ↓bnI_s, ↓bnV_s, ↓bnJ_s, ↓bnR_s, rt_e, rt_0, rt_bz, sv_s, sv_o, ur_s, ur_e, ur_o, bz_T, bz_F, nat_eqF, Nat.reduceAdd, ↓q_M_byteAt, ↓gI_435_4 F, ↓gR_435_3 F, ↓lI_436 F, ↓lI_437 F, ↓lI_438 F, ↓lI_439 F, ↓lI_440 F, ↓lI_441 F, ↓lI_443 F, ↓lI_444 F, ↓lI_445 F, ↓lI_446 F, ↓lI_447 F, ↓lI_448 F, ↓lI_449 F, ↓lI_450 F, ↓gd_435 F, il_0, il_1, il_3, il_4, il_11, il_27, b1, e]
theorem y_M_byteAt0 (F : Fix z) (B : B2 U b n) {i : Int} (hi : n ≤ i ∧ i ≤ 400) : cA m_M_byteAt [.ref 435, .int (iv i)] (em U K z) = some (.int (iv (-1)), em U K z) := by
  obtain ⟨b1, b2, b3, b4⟩ := B
  simp (disch := first | decide | omega | (simp (disch := first | decide | omega) only [sv_s, sv_o, ur_s, ur_e, ur_o]; omega)) only [↓reduceIte, iv_add, iv_sub, iv_mul, iv_neg, iv_ltT, iv_ltF, iv_leT, iv_leF, iv_eqT, iv_eqF, iv_div, iv_mod, ↓bnI_s, ↓bnV_s, ↓bnJ_s, ↓bnR_s, rt_e, rt_0, rt_bz, sv_s, sv_o, ur_s, ur_e, ur_o, bz_T, bz_F, nat_eqF, Nat.reduceAdd, ↓q_M_byteAt, ↓gI_435_4 F, ↓gR_435_3 F, ↓lI_436 F, ↓lI_437 F, ↓lI_438 F, ↓lI_439 F, ↓lI_440 F, ↓lI_441 F, ↓lI_443 F, ↓lI_444 F, ↓lI_445 F, ↓lI_446 F, ↓lI_447 F, ↓lI_448 F, ↓lI_449 F, ↓lI_450 F, ↓gd_435 F, il_0, il_1, il_3, il_4, il_11, il_27, b1]
theorem y_isFigure {c : Int} {h : Mem} (hc : -1 ≤ c ∧ c < 256) : cA m_M_isFigure [.int (iv c)] h = some (.int (iv (bz (48 ≤ c ∧ c ≤ 57))), h) := by
  by_cases h1 : 48 ≤ c
  · by_cases h2 : c ≤ 57
    · rw [bz_T ⟨h1, h2⟩]; simp (disch := first | decide | omega | (simp (disch := first | decide | omega) only [sv_s, sv_o, ur_s, ur_e, ur_o]; omega)) only [↓reduceIte, iv_add, iv_sub, iv_mul, iv_neg, iv_ltT, iv_ltF, iv_leT, iv_leF, iv_eqT, iv_eqF, iv_div, iv_mod, ↓bnI_s, ↓bnV_s, ↓bnJ_s, ↓bnR_s, rt_e, rt_0, rt_bz, sv_s, sv_o, ur_s, ur_e, ur_o, bz_T, bz_F, nat_eqF, Nat.reduceAdd, ↓q_M_isFigure, il_0, il_1, il_48, il_57]
    · rw [bz_F (fun q => h2 q.2)]; simp (disch := first | decide | omega | (simp (disch := first | decide | omega) only [sv_s, sv_o, ur_s, ur_e, ur_o]; omega)) only [↓reduceIte, iv_add, iv_sub, iv_mul, iv_neg, iv_ltT, iv_ltF, iv_leT, iv_leF, iv_eqT, iv_eqF, iv_div, iv_mod, ↓bnI_s, ↓bnV_s, ↓bnJ_s, ↓bnR_s, rt_e, rt_0, rt_bz, sv_s, sv_o, ur_s, ur_e, ur_o, bz_T, bz_F, nat_eqF, Nat.reduceAdd, ↓q_M_isFigure, il_0, il_1, il_48, il_57]
  · rw [bz_F (fun q => h1 q.1)]; simp (disch := first | decide | omega | (simp (disch := first | decide | omega) only [sv_s, sv_o, ur_s, ur_e, ur_o]; omega)) only [↓reduceIte, iv_add, iv_sub, iv_mul, iv_neg, iv_ltT, iv_ltF, iv_leT, iv_leF, iv_eqT, iv_eqF, iv_div, iv_mod, ↓bnI_s, ↓bnV_s, ↓bnJ_s, ↓bnR_s, rt_e, rt_0, rt_bz, sv_s, sv_o, ur_s, ur_e, ur_o, bz_T, bz_F, nat_eqF, Nat.reduceAdd, ↓q_M_isFigure, il_0, il_1, il_48, il_57]
theorem y_isLetterByte {c : Int} {h : Mem} (hc : -1 ≤ c ∧ c < 256) : cA m_M_isLetterByte [.int (iv c)] h = some (.int (iv (bz ((97 ≤ c ∧ c ≤ 122) ∨ (65 ≤ c ∧ c ≤ 90)))), h) := by
  by_cases h1 : 97 ≤ c
  · by_cases h2 : c ≤ 122
    · rw [bz_T (Or.inl ⟨h1, h2⟩)]; simp (disch := first | decide | omega | (simp (disch := first | decide | omega) only [sv_s, sv_o, ur_s, ur_e, ur_o]; omega)) only [↓reduceIte, iv_add, iv_sub, iv_mul, iv_neg, iv_ltT, iv_ltF, iv_leT, iv_leF, iv_eqT, iv_eqF, iv_div, iv_mod, ↓bnI_s, ↓bnV_s, ↓bnJ_s, ↓bnR_s, rt_e, rt_0, rt_bz, sv_s, sv_o, ur_s, ur_e, ur_o, bz_T, bz_F, nat_eqF, Nat.reduceAdd, ↓q_M_isLetterByte, ↓q_M_isLetterByte_12, il_0, il_1, il_12, il_65, il_90, il_97, il_122]
    · rw [bz_F (by omega)]; simp (disch := first | decide | omega | (simp (disch := first | decide | omega) only [sv_s, sv_o, ur_s, ur_e, ur_o]; omega)) only [↓reduceIte, iv_add, iv_sub, iv_mul, iv_neg, iv_ltT, iv_ltF, iv_leT, iv_leF, iv_eqT, iv_eqF, iv_div, iv_mod, ↓bnI_s, ↓bnV_s, ↓bnJ_s, ↓bnR_s, rt_e, rt_0, rt_bz, sv_s, sv_o, ur_s, ur_e, ur_o, bz_T, bz_F, nat_eqF, Nat.reduceAdd, ↓q_M_isLetterByte, ↓q_M_isLetterByte_12, il_0, il_1, il_12, il_65, il_90, il_97, il_122]
  · by_cases h3 : 65 ≤ c
    · by_cases h4 : c ≤ 90
      · rw [bz_T (Or.inr ⟨h3, h4⟩)]; simp (disch := first | decide | omega | (simp (disch := first | decide | omega) only [sv_s, sv_o, ur_s, ur_e, ur_o]; omega)) only [↓reduceIte, iv_add, iv_sub, iv_mul, iv_neg, iv_ltT, iv_ltF, iv_leT, iv_leF, iv_eqT, iv_eqF, iv_div, iv_mod, ↓bnI_s, ↓bnV_s, ↓bnJ_s, ↓bnR_s, rt_e, rt_0, rt_bz, sv_s, sv_o, ur_s, ur_e, ur_o, bz_T, bz_F, nat_eqF, Nat.reduceAdd, ↓q_M_isLetterByte, ↓q_M_isLetterByte_12, il_0, il_1, il_12, il_65, il_90, il_97, il_122]
      · rw [bz_F (by omega)]; simp (disch := first | decide | omega | (simp (disch := first | decide | omega) only [sv_s, sv_o, ur_s, ur_e, ur_o]; omega)) only [↓reduceIte, iv_add, iv_sub, iv_mul, iv_neg, iv_ltT, iv_ltF, iv_leT, iv_leF, iv_eqT, iv_eqF, iv_div, iv_mod, ↓bnI_s, ↓bnV_s, ↓bnJ_s, ↓bnR_s, rt_e, rt_0, rt_bz, sv_s, sv_o, ur_s, ur_e, ur_o, bz_T, bz_F, nat_eqF, Nat.reduceAdd, ↓q_M_isLetterByte, ↓q_M_isLetterByte_12, il_0, il_1, il_12, il_65, il_90, il_97, il_122]
    · rw [bz_F (by omega)]; simp (disch := first | decide | omega | (simp (disch := first | decide | omega) only [sv_s, sv_o, ur_s, ur_e, ur_o]; omega)) only [↓reduceIte, iv_add, iv_sub, iv_mul, iv_neg, iv_ltT, iv_ltF, iv_leT, iv_leF, iv_eqT, iv_eqF, iv_div, iv_mod, ↓bnI_s, ↓bnV_s, ↓bnJ_s, ↓bnR_s, rt_e, rt_0, rt_bz, sv_s, sv_o, ur_s, ur_e, ur_o, bz_T, bz_F, nat_eqF, Nat.reduceAdd, ↓q_M_isLetterByte, ↓q_M_isLetterByte_12, il_0, il_1, il_12, il_65, il_90, il_97, il_122]
theorem y_at (F : Fix z) (B : B2 U b n) {i : Int} (hi : 0 ≤ i ∧ i ≤ 310) : ∃ d, cA m_M_byteAt [.ref 435, .int (iv i)] (em U K z) = some (.int (iv d), em U K z) ∧ (-1 ≤ d ∧ d < 256) ∧ (i < n → d = b i) ∧ (n ≤ i → d = -1) := by
  by_cases q : i < n
  · exact ⟨b i, y_M_byteAt F B ⟨hi.1, q⟩, by have := B.2.2.2 i hi.1 q; omega, fun _ => rfl, fun x => absurd x (by omega)⟩
  · exact ⟨-1, y_M_byteAt0 F B (by omega), by decide, fun x => absurd x q, fun _ => rfl⟩
theorem m_dg (F : Fix z) {e : Int} : ∀ (m : Nat) (U : Vm) (c x : Int), B2 U b n → U 435 7 = c → U 435 10 = x → Rn isDg b n c e → c + m = e → 0 ≤ c → (0 ≤ x ∧ x ≤ 999999) → ∃ U', rX m_M_nextToken m_M_nextToken 85 [.ref 435, dd] [] (em U K z) = some (.null, em U' K z) ∧ frN U U' ∧ U' 435 7 = e ∧ U' 435 8 = U 435 8 ∧ U' 435 9 = U 435 9 ∧ U' 435 10 = nmM b c m x := by
  intro m
  induction m with
  | zero =>
    intro U c x B h7 h10 R hm c0 hx
    obtain ⟨r1, r2, r3⟩ := R
    have ce : c = e := by omega
    subst ce
    have b3 := B.2.2.1
    obtain ⟨d, d1, d2, d3, d4⟩ := y_at (K := K) F B (i := c) (by omega)
    have dg := y_isFigure (c := d) (h := em U K z) d2
    rw [bz_F (fun w => by
      by_cases q : c < n
      · have q1 := r3 q; unfold isDg at q1; rw [d3 q] at w; exact q1 w
      · rw [d4 (by omega)] at w; omega)] at dg
    refine ⟨U, ?_, frN.rfl_, h7, rfl, rfl, h10⟩
    (rw [q_M_nextToken_85]; simp (disch := first | decide | omega | (simp (disch := first | decide | omega) only [sv_s, sv_o, ur_s, ur_e, ur_o]; omega)) only [↓reduceIte, iv_add, iv_sub, iv_mul, iv_neg, iv_ltT, iv_ltF, iv_leT, iv_leF, iv_eqT, iv_eqF, iv_div, iv_mod, ↓bnI_s, ↓bnV_s, ↓bnJ_s, ↓bnR_s, rt_e, rt_0, rt_bz, sv_s, sv_o, ur_s, ur_e, ur_o, bz_T, bz_F, nat_eqF, Nat.reduceAdd, ↓gI_435_7 F, ↓gI_435_10 F, ↓pI_435_10 F, ↓pI_435_7 F, il_0, il_1, il_7, il_10, il_11, il_48, il_85, il_99999, h7, d1, dg])
  | succ m ih =>
    intro U c x B h7 h10 R hm c0 hx
    have b3 := B.2.2.1
    have R1 := R.1
    have d := R.2.1 c (by omega) (by omega)
    have st := R.step (by omega) d
    have by_ := y_M_byteAt (K := K) F B (i := c) (by omega)
    have rg := B.2.2.2 c (by omega) (by omega)
    have dg := y_isFigure (c := b c) (h := em U K z) (by omega)
    have dd0 := d
    unfold isDg at dd0
    rw [bz_T dd0] at dg
    show ∃ U', _ ∧ frN U U' ∧ U' 435 7 = e ∧ U' 435 8 = U 435 8 ∧ U' 435 9 = U 435 9 ∧ U' 435 10 = nmM b (c + 1) m (if 99999 < x then x else 10 * x + b c - 48)
    by_cases q : 99999 < x
    · rw [if_pos q]
      obtain ⟨U', e1, e2, e3, e4, e5, e6⟩ := ih (sv (sv U 435 10 x) 435 7 (c + 1)) (c + 1) x (((frN.w (by omega)).tr (frN.w (by omega))).b2 B) (by simp (disch := first | decide | omega | (simp (disch := first | decide | omega) only [sv_s, sv_o, ur_s, ur_e, ur_o]; omega)) only [↓reduceIte, iv_add, iv_sub, iv_mul, iv_neg, iv_ltT, iv_ltF, iv_leT, iv_leF, iv_eqT, iv_eqF, iv_div, iv_mod, ↓bnI_s, ↓bnV_s, ↓bnJ_s, ↓bnR_s, rt_e, rt_0, rt_bz, sv_s, sv_o, ur_s, ur_e, ur_o, bz_T, bz_F, nat_eqF, Nat.reduceAdd]) (by simp (disch := first | decide | omega | (simp (disch := first | decide | omega) only [sv_s, sv_o, ur_s, ur_e, ur_o]; omega)) only [↓reduceIte, iv_add, iv_sub, iv_mul, iv_neg, iv_ltT, iv_ltF, iv_leT, iv_leF, iv_eqT, iv_eqF, iv_div, iv_mod, ↓bnI_s, ↓bnV_s, ↓bnJ_s, ↓bnR_s, rt_e, rt_0, rt_bz, sv_s, sv_o, ur_s, ur_e, ur_o, bz_T, bz_F, nat_eqF, Nat.reduceAdd]) st.2 (by omega) (by omega) hx
      refine ⟨U', ?_, ((frN.w (by omega)).tr (frN.w (by omega))).tr e2, e3, e4.trans (by simp (disch := first | decide | omega | (simp (disch := first | decide | omega) only [sv_s, sv_o, ur_s, ur_e, ur_o]; omega)) only [↓reduceIte, iv_add, iv_sub, iv_mul, iv_neg, iv_ltT, iv_ltF, iv_leT, iv_leF, iv_eqT, iv_eqF, iv_div, iv_mod, ↓bnI_s, ↓bnV_s, ↓bnJ_s, ↓bnR_s, rt_e, rt_0, rt_bz, sv_s, sv_o, ur_s, ur_e, ur_o, bz_T, bz_F, nat_eqF, Nat.reduceAdd]), e5.trans (by simp (disch := first | decide | omega | (simp (disch := first | decide | omega) only [sv_s, sv_o, ur_s, ur_e, ur_o]; omega)) only [↓reduceIte, iv_add, iv_sub, iv_mul, iv_neg, iv_ltT, iv_ltF, iv_leT, iv_leF, iv_eqT, iv_eqF, iv_div, iv_mod, ↓bnI_s, ↓bnV_s, ↓bnJ_s, ↓bnR_s, rt_e, rt_0, rt_bz, sv_s, sv_o, ur_s, ur_e, ur_o, bz_T, bz_F, nat_eqF, Nat.reduceAdd]), e6⟩
      rw [← e1]
      (rw [q_M_nextToken_85]; simp (disch := first | decide | omega | (simp (disch := first | decide | omega) only [sv_s, sv_o, ur_s, ur_e, ur_o]; omega)) only [↓reduceIte, iv_add, iv_sub, iv_mul, iv_neg, iv_ltT, iv_ltF, iv_leT, iv_leF, iv_eqT, iv_eqF, iv_div, iv_mod, ↓bnI_s, ↓bnV_s, ↓bnJ_s, ↓bnR_s, rt_e, rt_0, rt_bz, sv_s, sv_o, ur_s, ur_e, ur_o, bz_T, bz_F, nat_eqF, Nat.reduceAdd, ↓gI_435_7 F, ↓gI_435_10 F, ↓pI_435_10 F, ↓pI_435_7 F, il_0, il_1, il_7, il_10, il_11, il_48, il_85, il_99999, h7, h10, by_, dg])
    · rw [if_neg q]
      obtain ⟨U', e1, e2, e3, e4, e5, e6⟩ := ih (sv (sv U 435 10 (10 * x + b c - 48)) 435 7 (c + 1)) (c + 1) (10 * x + b c - 48) (((frN.w (by omega)).tr (frN.w (by omega))).b2 B) (by simp (disch := first | decide | omega | (simp (disch := first | decide | omega) only [sv_s, sv_o, ur_s, ur_e, ur_o]; omega)) only [↓reduceIte, iv_add, iv_sub, iv_mul, iv_neg, iv_ltT, iv_ltF, iv_leT, iv_leF, iv_eqT, iv_eqF, iv_div, iv_mod, ↓bnI_s, ↓bnV_s, ↓bnJ_s, ↓bnR_s, rt_e, rt_0, rt_bz, sv_s, sv_o, ur_s, ur_e, ur_o, bz_T, bz_F, nat_eqF, Nat.reduceAdd]) (by simp (disch := first | decide | omega | (simp (disch := first | decide | omega) only [sv_s, sv_o, ur_s, ur_e, ur_o]; omega)) only [↓reduceIte, iv_add, iv_sub, iv_mul, iv_neg, iv_ltT, iv_ltF, iv_leT, iv_leF, iv_eqT, iv_eqF, iv_div, iv_mod, ↓bnI_s, ↓bnV_s, ↓bnJ_s, ↓bnR_s, rt_e, rt_0, rt_bz, sv_s, sv_o, ur_s, ur_e, ur_o, bz_T, bz_F, nat_eqF, Nat.reduceAdd]) st.2 (by omega) (by omega) (by omega)
      refine ⟨U', ?_, ((frN.w (by omega)).tr (frN.w (by omega))).tr e2, e3, e4.trans (by simp (disch := first | decide | omega | (simp (disch := first | decide | omega) only [sv_s, sv_o, ur_s, ur_e, ur_o]; omega)) only [↓reduceIte, iv_add, iv_sub, iv_mul, iv_neg, iv_ltT, iv_ltF, iv_leT, iv_leF, iv_eqT, iv_eqF, iv_div, iv_mod, ↓bnI_s, ↓bnV_s, ↓bnJ_s, ↓bnR_s, rt_e, rt_0, rt_bz, sv_s, sv_o, ur_s, ur_e, ur_o, bz_T, bz_F, nat_eqF, Nat.reduceAdd]), e5.trans (by simp (disch := first | decide | omega | (simp (disch := first | decide | omega) only [sv_s, sv_o, ur_s, ur_e, ur_o]; omega)) only [↓reduceIte, iv_add, iv_sub, iv_mul, iv_neg, iv_ltT, iv_ltF, iv_leT, iv_leF, iv_eqT, iv_eqF, iv_div, iv_mod, ↓bnI_s, ↓bnV_s, ↓bnJ_s, ↓bnR_s, rt_e, rt_0, rt_bz, sv_s, sv_o, ur_s, ur_e, ur_o, bz_T, bz_F, nat_eqF, Nat.reduceAdd]), e6⟩
      rw [← e1]
      (rw [q_M_nextToken_85]; simp (disch := first | decide | omega | (simp (disch := first | decide | omega) only [sv_s, sv_o, ur_s, ur_e, ur_o]; omega)) only [↓reduceIte, iv_add, iv_sub, iv_mul, iv_neg, iv_ltT, iv_ltF, iv_leT, iv_leF, iv_eqT, iv_eqF, iv_div, iv_mod, ↓bnI_s, ↓bnV_s, ↓bnJ_s, ↓bnR_s, rt_e, rt_0, rt_bz, sv_s, sv_o, ur_s, ur_e, ur_o, bz_T, bz_F, nat_eqF, Nat.reduceAdd, ↓gI_435_7 F, ↓gI_435_10 F, ↓pI_435_10 F, ↓pI_435_7 F, il_0, il_1, il_7, il_10, il_11, il_48, il_85, il_99999, h7, h10, by_, dg])
theorem jv_0i {a : Int} (h : 0 ≤ a ∧ a < 9223372036854775808) : (lg_cmp (jv a) 0 = iv 0) = (a = 0) := by
  rw [jl_0]
  by_cases q : a = 0
  · rw [jc_eq q]; exact propext ⟨fun _ => q, fun _ => rfl⟩
  · rw [jc_gt (by omega), iv_eqF (by omega)]; exact (eq_false q).symm
theorem m_lt (F : Fix z) {e : Int} : ∀ (m : Nat) (U K : Vm) (c x : Int), B2 U b n → U 435 7 = c → K 435 11 = x → Rn isLt b n c e → c + m = e → 0 ≤ c → ((0 ≤ x ∧ x < 72057594037927936) ∨ x = 1152921504606846976) → ∃ U' K', rX m_M_nextToken m_M_nextToken 168 [.ref 435, dd] [] (em U K z) = some (.null, em U' K' z) ∧ frN U U' ∧ U' 435 7 = e ∧ U' 435 8 = U 435 8 ∧ U' 435 9 = U 435 9 ∧ K' 435 11 = (fwl b c m).foldl wvS x := by
  intro m
  induction m with
  | zero =>
    intro U K c x B h7 h11 R hm c0 hx
    obtain ⟨r1, r2, r3⟩ := R
    have ce : c = e := by omega
    subst ce
    have b3 := B.2.2.1
    obtain ⟨d, d1, d2, d3, d4⟩ := y_at (K := K) F B (i := c) (by omega)
    have dg := y_isLetterByte (c := d) (h := em U K z) d2
    rw [bz_F (fun w => by
      by_cases q : c < n
      · have q1 := r3 q; unfold isLt at q1; rw [d3 q] at w; exact q1 w
      · rw [d4 (by omega)] at w; omega)] at dg
    refine ⟨U, K, ?_, frN.rfl_, h7, rfl, rfl, h11⟩
    (rw [q_M_nextToken_168]; simp (disch := first | decide | omega | (simp (disch := first | decide | omega) only [sv_s, sv_o, ur_s, ur_e, ur_o]; omega)) only [↓reduceIte, iv_add, iv_sub, iv_mul, iv_neg, iv_ltT, iv_ltF, iv_leT, iv_leF, iv_eqT, iv_eqF, iv_div, iv_mod, ↓bnI_s, ↓bnV_s, ↓bnJ_s, ↓bnR_s, rt_e, rt_0, rt_bz, sv_s, sv_o, ur_s, ur_e, ur_o, bz_T, bz_F, nat_eqF, Nat.reduceAdd, ↓gI_435_7 F, ↓gJ_435_11 F, ↓pJ_435_11 F, ↓pI_435_7 F, il_0, il_1, il_7, il_8, il_11, il_48, il_63, il_168, h7, d1, dg])
  | succ m ih =>
    intro U K c x B h7 h11 R hm c0 hx
    have b3 := B.2.2.1
    have R1 := R.1
    have d := R.2.1 c (by omega) (by omega)
    have st := R.step (by omega) d
    have by_ := y_M_byteAt (K := K) F B (i := c) (by omega)
    have rg := B.2.2.2 c (by omega) (by omega)
    have dg := y_isLetterByte (c := b c) (h := em U K z) (by omega)
    have d0 := d
    unfold isLt at d0
    rw [bz_T d0] at dg
    have sr := jshr (a := x) (by omega)
    have s0 := jv_0i (a := x / 281474976710656) (by omega)
    show ∃ (U' K' : Vm), _ ∧ frN U U' ∧ U' 435 7 = e ∧ U' 435 8 = U 435 8 ∧ U' 435 9 = U 435 9 ∧ K' 435 11 = (fwl b (c + 1) m).foldl wvS (wvS x (b c))
    by_cases q : x < 281474976710656
    · have ev : wvS x (b c) = 256 * x + b c := by unfold wvS; rw [if_pos q]
      rw [ev]
      rw [eq_true (show x / 281474976710656 = 0 by omega)] at s0
      have sl := jshl (a := x) (c := b c) (by omega) rg
      obtain ⟨U', K', e1, e2, e3, e4, e5, e6⟩ := ih (sv U 435 7 (c + 1)) (sv K 435 11 (256 * x + b c)) (c + 1) (256 * x + b c) ((frN.w (by omega)).b2 B) (by simp (disch := first | decide | omega | (simp (disch := first | decide | omega) only [sv_s, sv_o, ur_s, ur_e, ur_o]; omega)) only [↓reduceIte, iv_add, iv_sub, iv_mul, iv_neg, iv_ltT, iv_ltF, iv_leT, iv_leF, iv_eqT, iv_eqF, iv_div, iv_mod, ↓bnI_s, ↓bnV_s, ↓bnJ_s, ↓bnR_s, rt_e, rt_0, rt_bz, sv_s, sv_o, ur_s, ur_e, ur_o, bz_T, bz_F, nat_eqF, Nat.reduceAdd]) (by simp (disch := first | decide | omega | (simp (disch := first | decide | omega) only [sv_s, sv_o, ur_s, ur_e, ur_o]; omega)) only [↓reduceIte, iv_add, iv_sub, iv_mul, iv_neg, iv_ltT, iv_ltF, iv_leT, iv_leF, iv_eqT, iv_eqF, iv_div, iv_mod, ↓bnI_s, ↓bnV_s, ↓bnJ_s, ↓bnR_s, rt_e, rt_0, rt_bz, sv_s, sv_o, ur_s, ur_e, ur_o, bz_T, bz_F, nat_eqF, Nat.reduceAdd]) st.2 (by omega) (by omega) (by omega)
      refine ⟨U', K', ?_, (frN.w (by omega)).tr e2, e3, e4.trans (by simp (disch := first | decide | omega | (simp (disch := first | decide | omega) only [sv_s, sv_o, ur_s, ur_e, ur_o]; omega)) only [↓reduceIte, iv_add, iv_sub, iv_mul, iv_neg, iv_ltT, iv_ltF, iv_leT, iv_leF, iv_eqT, iv_eqF, iv_div, iv_mod, ↓bnI_s, ↓bnV_s, ↓bnJ_s, ↓bnR_s, rt_e, rt_0, rt_bz, sv_s, sv_o, ur_s, ur_e, ur_o, bz_T, bz_F, nat_eqF, Nat.reduceAdd]), e5.trans (by simp (disch := first | decide | omega | (simp (disch := first | decide | omega) only [sv_s, sv_o, ur_s, ur_e, ur_o]; omega)) only [↓reduceIte, iv_add, iv_sub, iv_mul, iv_neg, iv_ltT, iv_ltF, iv_leT, iv_leF, iv_eqT, iv_eqF, iv_div, iv_mod, ↓bnI_s, ↓bnV_s, ↓bnJ_s, ↓bnR_s, rt_e, rt_0, rt_bz, sv_s, sv_o, ur_s, ur_e, ur_o, bz_T, bz_F, nat_eqF, Nat.reduceAdd]), e6⟩
      rw [← e1]
      have il := iv_long (a := b c) (by omega)
      (rw [q_M_nextToken_168]; simp (disch := first | decide | omega | (simp (disch := first | decide | omega) only [sv_s, sv_o, ur_s, ur_e, ur_o]; omega)) only [↓reduceIte, iv_add, iv_sub, iv_mul, iv_neg, iv_ltT, iv_ltF, iv_leT, iv_leF, iv_eqT, iv_eqF, iv_div, iv_mod, ↓bnI_s, ↓bnV_s, ↓bnJ_s, ↓bnR_s, rt_e, rt_0, rt_bz, sv_s, sv_o, ur_s, ur_e, ur_o, bz_T, bz_F, nat_eqF, Nat.reduceAdd, ↓gI_435_7 F, ↓gJ_435_11 F, ↓pJ_435_11 F, ↓pI_435_7 F, il_0, il_1, il_7, il_11, il_63, il_168, h7, h11, by_, dg, sr, s0, sl, il])
    · have ev : wvS x (b c) = 1152921504606846976 := by unfold wvS; rw [if_neg q]
      rw [ev]
      rw [eq_false (show ¬ x / 281474976710656 = 0 by omega)] at s0
      obtain ⟨U', K', e1, e2, e3, e4, e5, e6⟩ := ih (sv U 435 7 (c + 1)) (sv K 435 11 1152921504606846976) (c + 1) 1152921504606846976 ((frN.w (by omega)).b2 B) (by simp (disch := first | decide | omega | (simp (disch := first | decide | omega) only [sv_s, sv_o, ur_s, ur_e, ur_o]; omega)) only [↓reduceIte, iv_add, iv_sub, iv_mul, iv_neg, iv_ltT, iv_ltF, iv_leT, iv_leF, iv_eqT, iv_eqF, iv_div, iv_mod, ↓bnI_s, ↓bnV_s, ↓bnJ_s, ↓bnR_s, rt_e, rt_0, rt_bz, sv_s, sv_o, ur_s, ur_e, ur_o, bz_T, bz_F, nat_eqF, Nat.reduceAdd]) (by simp (disch := first | decide | omega | (simp (disch := first | decide | omega) only [sv_s, sv_o, ur_s, ur_e, ur_o]; omega)) only [↓reduceIte, iv_add, iv_sub, iv_mul, iv_neg, iv_ltT, iv_ltF, iv_leT, iv_leF, iv_eqT, iv_eqF, iv_div, iv_mod, ↓bnI_s, ↓bnV_s, ↓bnJ_s, ↓bnR_s, rt_e, rt_0, rt_bz, sv_s, sv_o, ur_s, ur_e, ur_o, bz_T, bz_F, nat_eqF, Nat.reduceAdd]) st.2 (by omega) (by omega) (Or.inr rfl)
      refine ⟨U', K', ?_, (frN.w (by omega)).tr e2, e3, e4.trans (by simp (disch := first | decide | omega | (simp (disch := first | decide | omega) only [sv_s, sv_o, ur_s, ur_e, ur_o]; omega)) only [↓reduceIte, iv_add, iv_sub, iv_mul, iv_neg, iv_ltT, iv_ltF, iv_leT, iv_leF, iv_eqT, iv_eqF, iv_div, iv_mod, ↓bnI_s, ↓bnV_s, ↓bnJ_s, ↓bnR_s, rt_e, rt_0, rt_bz, sv_s, sv_o, ur_s, ur_e, ur_o, bz_T, bz_F, nat_eqF, Nat.reduceAdd]), e5.trans (by simp (disch := first | decide | omega | (simp (disch := first | decide | omega) only [sv_s, sv_o, ur_s, ur_e, ur_o]; omega)) only [↓reduceIte, iv_add, iv_sub, iv_mul, iv_neg, iv_ltT, iv_ltF, iv_leT, iv_leF, iv_eqT, iv_eqF, iv_div, iv_mod, ↓bnI_s, ↓bnV_s, ↓bnJ_s, ↓bnR_s, rt_e, rt_0, rt_bz, sv_s, sv_o, ur_s, ur_e, ur_o, bz_T, bz_F, nat_eqF, Nat.reduceAdd]), e6⟩
      rw [← e1]
      have jb : (1152921504606846976 : Int64) = jv 1152921504606846976 := rfl
      (rw [q_M_nextToken_168]; simp (disch := first | decide | omega | (simp (disch := first | decide | omega) only [sv_s, sv_o, ur_s, ur_e, ur_o]; omega)) only [↓reduceIte, iv_add, iv_sub, iv_mul, iv_neg, iv_ltT, iv_ltF, iv_leT, iv_leF, iv_eqT, iv_eqF, iv_div, iv_mod, ↓bnI_s, ↓bnV_s, ↓bnJ_s, ↓bnR_s, rt_e, rt_0, rt_bz, sv_s, sv_o, ur_s, ur_e, ur_o, bz_T, bz_F, nat_eqF, Nat.reduceAdd, ↓gI_435_7 F, ↓gJ_435_11 F, ↓pJ_435_11 F, ↓pI_435_7 F, il_0, il_1, il_7, il_11, il_63, il_168, h7, h11, by_, dg, sr, s0, jb])
end
