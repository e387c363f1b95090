/-! TOKENS, as the class cuts them -/
theorem f_s2 {z : Zz} (F : Fix z) : z.2.1 2 = (28, 2) := F.2.2.2.1
theorem f_s3 {z : Zz} (F : Fix z) : z.2.1 3 = (28, 2) := F.2.2.2.2.1
theorem f_s4 {z : Zz} (F : Fix z) : z.2.1 4 = (9, 11) := F.2.2.2.2.2.1
theorem f_s5 {z : Zz} (F : Fix z) : z.2.1 5 = (9, 131) := F.2.2.2.2.2.2.1
theorem f_r2 {z : Zz} (F : Fix z) : z.1 2 0 = 4 := F.2.2.2.2.2.2.2.1
theorem f_r3 {z : Zz} (F : Fix z) : z.1 3 0 = 5 := F.2.2.2.2.2.2.2.2
theorem rt_3 {h : Mem} : rtN 3 (iv 0) h = some (.int (iv 0), h) := rfl
theorem rt_2 {c : Int} {h : Mem} (hc : 0 ≤ c ∧ c ≤ 65535) : rtN 2 (iv c) h = some (.int (iv c), h) := by
  have e1 : (0 : Int32) ≤ iv c := of_eq_true (iv_leT (a := 0) (b := c) (by omega))
  have e2 : iv c ≤ (65535 : Int32) := of_eq_true (iv_leT (a := c) (b := 65535) (by omega))
  exact if_pos ⟨e1, e2⟩
def chkCh : Bool := (List.range 256).all fun k => decide (((iv (k : Int) &&& iv 255).toUInt32 % 65536).toInt32 = iv (k : Int)) && decide (((iv (k : Int)).toUInt32 % 65536).toInt32 = iv (k : Int)) && decide ((iv (k : Int)).toInt8.toInt32 = iv (if (k : Int) < 128 then (k : Int) else (k : Int) - 256))
set_option maxRecDepth 100000 in
theorem chk_Ch : chkCh = true := by decide +kernel
theorem ch_at {c : Int} (h : 0 ≤ c ∧ c < 256) : ((iv c &&& iv 255).toUInt32 % 65536).toInt32 = iv c ∧ ((iv c).toUInt32 % 65536).toInt32 = iv c ∧ (iv c).toInt8.toInt32 = iv (if c < 128 then c else c - 256) := by
  have q := chk_Ch
  unfold chkCh at q
  rw [List.all_eq_true] at q
  have q1 := q c.toNat (List.mem_range.mpr (by omega))
  simp only [Bool.and_eq_true, decide_eq_true_eq] at q1
  rw [show ((c.toNat : Nat) : Int) = c by omega] at q1
  exact ⟨q1.1.1, q1.1.2, q1.2⟩
theorem sh_11 : iv 11 >>> (iv 0 &&& iv 31) = iv 11 := by decide
theorem sh_131 : iv 131 >>> (iv 0 &&& iv 31) = iv 131 := by decide
theorem y_chk {x y : Int} {h : Mem} (hx : 0 ≤ x ∧ x < y ∧ y < 2147483648) : cA m_Preconditions_checkIndex [.int (iv x), .int (iv y), .retAddr 1] h = some (.int (iv x), h) := by
  have e : ∃ r1 r2, exS (fun _ => op_Preconditions_checkIndex) (fun _ => lkm mk_Preconditions_checkIndex) rkk cA (rX m_Preconditions_checkIndex m_Preconditions_checkIndex) m_Preconditions_checkIndex m_Preconditions_checkIndex 14 0 [.int (iv x), .int (iv y), .retAddr 1] [] h = (if (0 : Int32) ≤ iv x then (if iv y ≤ iv x then r1 else (some (.int (iv x), h))) else r2) := ⟨_, _, rfl⟩
  obtain ⟨r1, r2, e⟩ := e
  have q := cA_of (M := m_Preconditions_checkIndex) (a := [.int (iv x), .int (iv y), .retAddr 1]) (h := h) (b := true) rfl ((rX_eq pp_Preconditions_checkIndex pk_Preconditions_checkIndex m_Preconditions_checkIndex 14 0 [.int (iv x), .int (iv y), .retAddr 1] [] h).trans e)
  rw [q, il_0, if_pos (of_eq_true (iv_leT (by omega))), if_neg (of_eq_false (iv_leF (by omega)))]
  rfl
section
variable {V J : Vm} {z : Zz} {b : Int → Int} {n : Int}
theorem y_isDigit {c : Int} {h : Mem} (hc : 0 ≤ c ∧ c < 256) : cA m_Tape_isDigit [.int (iv c)] h = some (.int (iv (bz (48 ≤ c ∧ c ≤ 57))), h) := by
  by_cases h1 : 48 ≤ c
  · by_cases h2 : c ≤ 57
    · rw [bz_T ⟨h1, h2⟩]; simp (disch := first | decide | omega | (simp (disch := first | decide | omega) only [sv_s, sv_o, ur_s, ur_e, ur_o]; omega)) only [↓reduceIte, iv_add, iv_sub, iv_mul, iv_neg, iv_ltT, iv_ltF, iv_leT, iv_leF, iv_eqT, iv_eqF, iv_div, iv_mod, ↓bnI_s, ↓bnV_s, ↓bnJ_s, ↓bnR_s, rt_e, rt_0, rt_bz, sv_s, sv_o, ur_s, ur_e, ur_o, bz_T, bz_F, nat_eqF, Nat.reduceAdd, ↓q_Tape_isDigit, il_0, il_1, il_48, il_57]
    · rw [bz_F (fun q => h2 q.2)]; simp (disch := first | decide | omega | (simp (disch := first | decide | omega) only [sv_s, sv_o, ur_s, ur_e, ur_o]; omega)) only [↓reduceIte, iv_add, iv_sub, iv_mul, iv_neg, iv_ltT, iv_ltF, iv_leT, iv_leF, iv_eqT, iv_eqF, iv_div, iv_mod, ↓bnI_s, ↓bnV_s, ↓bnJ_s, ↓bnR_s, rt_e, rt_0, rt_bz, sv_s, sv_o, ur_s, ur_e, ur_o, bz_T, bz_F, nat_eqF, Nat.reduceAdd, ↓q_Tape_isDigit, il_0, il_1, il_48, il_57]
  · rw [bz_F (fun q => h1 q.1)]; simp (disch := first | decide | omega | (simp (disch := first | decide | omega) only [sv_s, sv_o, ur_s, ur_e, ur_o]; omega)) only [↓reduceIte, iv_add, iv_sub, iv_mul, iv_neg, iv_ltT, iv_ltF, iv_leT, iv_leF, iv_eqT, iv_eqF, iv_div, iv_mod, ↓bnI_s, ↓bnV_s, ↓bnJ_s, ↓bnR_s, rt_e, rt_0, rt_bz, sv_s, sv_o, ur_s, ur_e, ur_o, bz_T, bz_F, nat_eqF, Nat.reduceAdd, ↓q_Tape_isDigit, il_0, il_1, il_48, il_57]
theorem y_isLetter {c : Int} {h : Mem} (hc : 0 ≤ c ∧ c < 256) : cA m_Tape_isLetter [.int (iv c)] h = some (.int (iv (bz ((97 ≤ c ∧ c ≤ 122) ∨ (65 ≤ c ∧ c ≤ 90)))), h) := by
  by_cases h1 : 97 ≤ c
  · by_cases h2 : c ≤ 122
    · rw [bz_T (Or.inl ⟨h1, h2⟩)]; simp (disch := first | decide | omega | (simp (disch := first | decide | omega) only [sv_s, sv_o, ur_s, ur_e, ur_o]; omega)) only [↓reduceIte, iv_add, iv_sub, iv_mul, iv_neg, iv_ltT, iv_ltF, iv_leT, iv_leF, iv_eqT, iv_eqF, iv_div, iv_mod, ↓bnI_s, ↓bnV_s, ↓bnJ_s, ↓bnR_s, rt_e, rt_0, rt_bz, sv_s, sv_o, ur_s, ur_e, ur_o, bz_T, bz_F, nat_eqF, Nat.reduceAdd, ↓q_Tape_isLetter, ↓q_Tape_isLetter_12, il_0, il_1, il_12, il_65, il_90, il_97, il_122]
    · rw [bz_F (by omega)]; simp (disch := first | decide | omega | (simp (disch := first | decide | omega) only [sv_s, sv_o, ur_s, ur_e, ur_o]; omega)) only [↓reduceIte, iv_add, iv_sub, iv_mul, iv_neg, iv_ltT, iv_ltF, iv_leT, iv_leF, iv_eqT, iv_eqF, iv_div, iv_mod, ↓bnI_s, ↓bnV_s, ↓bnJ_s, ↓bnR_s, rt_e, rt_0, rt_bz, sv_s, sv_o, ur_s, ur_e, ur_o, bz_T, bz_F, nat_eqF, Nat.reduceAdd, ↓q_Tape_isLetter, ↓q_Tape_isLetter_12, il_0, il_1, il_12, il_65, il_90, il_97, il_122]
  · by_cases h3 : 65 ≤ c
    · by_cases h4 : c ≤ 90
      · rw [bz_T (Or.inr ⟨h3, h4⟩)]; simp (disch := first | decide | omega | (simp (disch := first | decide | omega) only [sv_s, sv_o, ur_s, ur_e, ur_o]; omega)) only [↓reduceIte, iv_add, iv_sub, iv_mul, iv_neg, iv_ltT, iv_ltF, iv_leT, iv_leF, iv_eqT, iv_eqF, iv_div, iv_mod, ↓bnI_s, ↓bnV_s, ↓bnJ_s, ↓bnR_s, rt_e, rt_0, rt_bz, sv_s, sv_o, ur_s, ur_e, ur_o, bz_T, bz_F, nat_eqF, Nat.reduceAdd, ↓q_Tape_isLetter, ↓q_Tape_isLetter_12, il_0, il_1, il_12, il_65, il_90, il_97, il_122]
      · rw [bz_F (by omega)]; simp (disch := first | decide | omega | (simp (disch := first | decide | omega) only [sv_s, sv_o, ur_s, ur_e, ur_o]; omega)) only [↓reduceIte, iv_add, iv_sub, iv_mul, iv_neg, iv_ltT, iv_ltF, iv_leT, iv_leF, iv_eqT, iv_eqF, iv_div, iv_mod, ↓bnI_s, ↓bnV_s, ↓bnJ_s, ↓bnR_s, rt_e, rt_0, rt_bz, sv_s, sv_o, ur_s, ur_e, ur_o, bz_T, bz_F, nat_eqF, Nat.reduceAdd, ↓q_Tape_isLetter, ↓q_Tape_isLetter_12, il_0, il_1, il_12, il_65, il_90, il_97, il_122]
    · rw [bz_F (by omega)]; simp (disch := first | decide | omega | (simp (disch := first | decide | omega) only [sv_s, sv_o, ur_s, ur_e, ur_o]; omega)) only [↓reduceIte, iv_add, iv_sub, iv_mul, iv_neg, iv_ltT, iv_ltF, iv_leT, iv_leF, iv_eqT, iv_eqF, iv_div, iv_mod, ↓bnI_s, ↓bnV_s, ↓bnJ_s, ↓bnR_s, rt_e, rt_0, rt_bz, sv_s, sv_o, ur_s, ur_e, ur_o, bz_T, bz_F, nat_eqF, Nat.reduceAdd, ↓q_Tape_isLetter, ↓q_Tape_isLetter_12, il_0, il_1, il_12, il_65, il_90, il_97, il_122]
/-- the bytes that stand on the tape -/
def By (V : Vm) (b : Int → Int) (n : Int) : Prop := V 419 1 = n ∧ V 420 = b ∧ (0 ≤ n ∧ n ≤ 300) ∧ ∀ j, 0 ≤ j → j < n → 0 ≤ b j ∧ b j < 256
theorem y_byteAt (F : Fix z) (B : By V b n) {i : Int} (hi : 0 ≤ i ∧ i < n) : cA m_Tape_byteAt [.ref 419, .int (iv i)] (em V J z) = some (.int (iv (b i)), em V J z) := by
  obtain ⟨b1, b2, b3, b4⟩ := B
  simp (disch := first | decide | omega | (simp (disch := first | decide | omega) only [sv_s, sv_o, ur_s, ur_e, ur_o]; omega)) only [↓reduceIte, iv_add, iv_sub, iv_mul, iv_neg, iv_ltT, iv_ltF, iv_leT, iv_leF, iv_eqT, iv_eqF, iv_div, iv_mod, ↓bnI_s, ↓bnV_s, ↓bnJ_s, ↓bnR_s, rt_e, rt_0, rt_bz, sv_s, sv_o, ur_s, ur_e, ur_o, bz_T, bz_F, nat_eqF, Nat.reduceAdd, ↓q_Tape_byteAt, ↓gI_419_1 F, ↓gR_419_0 F, ↓lI_18 F, ↓lI_19 F, ↓lI_20 F, ↓lI_22 F, ↓lI_23 F, ↓lI_25 F, ↓lI_26 F, ↓lI_28 F, ↓lI_29 F, ↓lI_418 F, ↓lI_420 F, ↓lI_421 F, ↓lI_422 F, ↓lI_423 F, ↓lI_425 F, ↓lI_426 F, ↓lI_428 F, ↓lI_429 F, ↓lI_432 F, ↓lI_433 F, ↓lI_434 F, ↓nI_18 F, ↓nI_19 F, ↓nI_20 F, ↓nI_22 F, ↓nI_23 F, ↓nI_25 F, ↓nI_26 F, ↓nI_28 F, ↓nI_29 F, ↓nI_418 F, ↓nI_420 F, ↓nI_421 F, ↓nI_422 F, ↓nI_423 F, ↓nI_425 F, ↓nI_426 F, ↓nI_428 F, ↓nI_429 F, ↓nI_432 F, ↓nI_433 F, ↓nI_434 F, ↓gd_419 F, il_0, il_1, il_8, il_24, b1, b2]
theorem y_byteAt0 (F : Fix z) (B : By V b n) {i : Int} (hi : n ≤ i ∧ i ≤ 310) : cA m_Tape_byteAt [.ref 419, .int (iv i)] (em V J z) = some (.int (iv 0), em V J z) := by
  obtain ⟨b1, b2, b3, b4⟩ := B
  simp (disch := first | decide | omega | (simp (disch := first | decide | omega) only [sv_s, sv_o, ur_s, ur_e, ur_o]; omega)) only [↓reduceIte, iv_add, iv_sub, iv_mul, iv_neg, iv_ltT, iv_ltF, iv_leT, iv_leF, iv_eqT, iv_eqF, iv_div, iv_mod, ↓bnI_s, ↓bnV_s, ↓bnJ_s, ↓bnR_s, rt_e, rt_0, rt_bz, sv_s, sv_o, ur_s, ur_e, ur_o, bz_T, bz_F, nat_eqF, Nat.reduceAdd, ↓q_Tape_byteAt, ↓gI_419_1 F, ↓gR_419_0 F, ↓lI_18 F, ↓lI_19 F, ↓lI_20 F, ↓lI_22 F, ↓lI_23 F, ↓lI_25 F, ↓lI_26 F, ↓lI_28 F, ↓lI_29 F, ↓lI_418 F, ↓lI_420 F, ↓lI_421 F, ↓lI_422 F, ↓lI_423 F, ↓lI_425 F, ↓lI_426 F, ↓lI_428 F, ↓lI_429 F, ↓lI_432 F, ↓lI_433 F, ↓lI_434 F, ↓nI_18 F, ↓nI_19 F, ↓nI_20 F, ↓nI_22 F, ↓nI_23 F, ↓nI_25 F, ↓nI_26 F, ↓nI_28 F, ↓nI_29 F, ↓nI_418 F, ↓nI_420 F, ↓nI_421 F, ↓nI_422 F, ↓nI_423 F, ↓nI_425 F, ↓nI_426 F, ↓nI_428 F, ↓nI_429 F, ↓nI_432 F, ↓nI_433 F, ↓nI_434 F, ↓gd_419 F, il_0, il_1, il_8, il_24, b1, b2]
/-- one more token -/
def tkd (V : Vm) (k v p : Int) : Vm := sv (sv (sv (sv V 421 (V 419 5) k) 422 (V 419 5) v) 423 (V 419 5) p) 419 5 (V 419 5 + 1)
theorem y_addToken (F : Fix z) {k v p : Int} (ht : 0 ≤ V 419 5 ∧ V 419 5 ≤ 300) : cA m_Tape_addToken [.ref 419, .int (iv k), .int (iv v), .int (iv p)] (em V J z) = some (.null, em (tkd V k v p) J z) := by
  unfold tkd
  generalize hx : V 419 5 = x at *
  simp (disch := first | decide | omega | (simp (disch := first | decide | omega) only [sv_s, sv_o, ur_s, ur_e, ur_o]; omega)) only [↓reduceIte, iv_add, iv_sub, iv_mul, iv_neg, iv_ltT, iv_ltF, iv_leT, iv_leF, iv_eqT, iv_eqF, iv_div, iv_mod, ↓bnI_s, ↓bnV_s, ↓bnJ_s, ↓bnR_s, rt_e, rt_0, rt_bz, sv_s, sv_o, ur_s, ur_e, ur_o, bz_T, bz_F, nat_eqF, Nat.reduceAdd, ↓q_Tape_addToken, ↓gR_419_2 F, ↓gI_419_5 F, ↓gR_419_3 F, ↓gR_419_4 F, ↓pI_419_5 F, ↓gd_419 F, il_0, il_1, il_2, il_3, il_4, il_5, il_8, il_24, y_put (s_421 F), y_put (s_422 F), y_put (s_423 F), pt_in, hx]
theorem tkd_o {k v p : Int} {a : Nat} (h1 : a ≠ 421) (h2 : a ≠ 422) (h3 : a ≠ 423) (h4 : a ≠ 419) : tkd V k v p a = V a := by unfold tkd; simp (disch := first | decide | omega | (simp (disch := first | decide | omega) only [sv_s, sv_o, ur_s, ur_e, ur_o]; omega)) only [↓reduceIte, iv_add, iv_sub, iv_mul, iv_neg, iv_ltT, iv_ltF, iv_leT, iv_leF, iv_eqT, iv_eqF, iv_div, iv_mod, ↓bnI_s, ↓bnV_s, ↓bnJ_s, ↓bnR_s, rt_e, rt_0, rt_bz, sv_s, sv_o, ur_s, ur_e, ur_o, bz_T, bz_F, nat_eqF, Nat.reduceAdd]
theorem tkd_By {k v p : Int} (B : By V b n) : By (tkd V k v p) b n := by
  obtain ⟨b1, b2, b3, b4⟩ := B
  refine ⟨?_, ?_, b3, b4⟩
  · unfold tkd; simp (disch := first | decide | omega | (simp (disch := first | decide | omega) only [sv_s, sv_o, ur_s, ur_e, ur_o]; omega)) only [↓reduceIte, iv_add, iv_sub, iv_mul, iv_neg, iv_ltT, iv_ltF, iv_leT, iv_leF, iv_eqT, iv_eqF, iv_div, iv_mod, ↓bnI_s, ↓bnV_s, ↓bnJ_s, ↓bnR_s, rt_e, rt_0, rt_bz, sv_s, sv_o, ur_s, ur_e, ur_o, bz_T, bz_F, nat_eqF, Nat.reduceAdd, b1]
  · unfold tkd; simp (disch := first | decide | omega | (simp (disch := first | decide | omega) only [sv_s, sv_o, ur_s, ur_e, ur_o]; omega)) only [↓reduceIte, iv_add, iv_sub, iv_mul, iv_neg, iv_ltT, iv_ltF, iv_leT, iv_leF, iv_eqT, iv_eqF, iv_div, iv_mod, ↓bnI_s, ↓bnV_s, ↓bnJ_s, ↓bnR_s, rt_e, rt_0, rt_bz, sv_s, sv_o, ur_s, ur_e, ur_o, bz_T, bz_F, nat_eqF, Nat.reduceAdd, b2]
theorem y_cutNumber_l (F : Fix z) (B : By V b n) {s e : Int} (hs : 0 ≤ s) (ht : 0 ≤ V 419 5 ∧ V 419 5 ≤ 300) : ∀ (m : Nat) (p x : Int), Rn isDg b n p e → p + m = e → s ≤ p → (0 ≤ x ∧ x ≤ 10000) → rX m_Tape_cutNumber m_Tape_cutNumber 7 [.ref 419, .int (iv s), .int (iv x), .int (iv p), .int (iv (p - s))] [] (em V J z) = some (.int (iv e), em (tkd V 38 (nmC b p m x) s) J z) := by
  intro m
  induction m with
  | zero =>
    intro p x R hp sp hx
    obtain ⟨r1, r2, r3⟩ := R
    have pe : p = e := by omega
    subst pe
    have b3 := B.2.2.1
    have ad := y_addToken (V := V) (J := J) F (k := 38) (v := x) (p := s) ht
    show _ = (some (Value.int (iv p), em (tkd V 38 x s) J z) : Rs)
    by_cases q : p - s < 300
    · by_cases w : p < n
      · have nd := r3 w
        unfold isDg at nd
        have by_ := y_byteAt (J := J) F B (i := p) (by omega)
        have rg := B.2.2.2 p (by omega) w
        have dg := y_isDigit (c := b p) (h := em V J z) rg
        rw [bz_F nd] at dg
        (rw [q_Tape_cutNumber_7]; simp (disch := first | decide | omega | (simp (disch := first | decide | omega) only [sv_s, sv_o, ur_s, ur_e, ur_o]; omega)) only [↓reduceIte, iv_add, iv_sub, iv_mul, iv_neg, iv_ltT, iv_ltF, iv_leT, iv_leF, iv_eqT, iv_eqF, iv_div, iv_mod, ↓bnI_s, ↓bnV_s, ↓bnJ_s, ↓bnR_s, rt_e, rt_0, rt_bz, sv_s, sv_o, ur_s, ur_e, ur_o, bz_T, bz_F, nat_eqF, Nat.reduceAdd, il_0, il_1, il_7, il_10, il_38, il_48, il_300, il_10000, by_, dg, ad])
      · have by_ := y_byteAt0 (J := J) F B (i := p) (by omega)
        have dg := y_isDigit (c := 0) (h := em V J z) (by omega)
        rw [bz_F (by omega)] at dg
        (rw [q_Tape_cutNumber_7]; simp (disch := first | decide | omega | (simp (disch := first | decide | omega) only [sv_s, sv_o, ur_s, ur_e, ur_o]; omega)) only [↓reduceIte, iv_add, iv_sub, iv_mul, iv_neg, iv_ltT, iv_ltF, iv_leT, iv_leF, iv_eqT, iv_eqF, iv_div, iv_mod, ↓bnI_s, ↓bnV_s, ↓bnJ_s, ↓bnR_s, rt_e, rt_0, rt_bz, sv_s, sv_o, ur_s, ur_e, ur_o, bz_T, bz_F, nat_eqF, Nat.reduceAdd, il_0, il_1, il_7, il_10, il_38, il_48, il_300, il_10000, by_, dg, ad])
    · (rw [q_Tape_cutNumber_7]; simp (disch := first | decide | omega | (simp (disch := first | decide | omega) only [sv_s, sv_o, ur_s, ur_e, ur_o]; omega)) only [↓reduceIte, iv_add, iv_sub, iv_mul, iv_neg, iv_ltT, iv_ltF, iv_leT, iv_leF, iv_eqT, iv_eqF, iv_div, iv_mod, ↓bnI_s, ↓bnV_s, ↓bnJ_s, ↓bnR_s, rt_e, rt_0, rt_bz, sv_s, sv_o, ur_s, ur_e, ur_o, bz_T, bz_F, nat_eqF, Nat.reduceAdd, il_0, il_1, il_7, il_10, il_38, il_48, il_300, il_10000, ad])
  | succ m ih =>
    intro p x R hp sp hx
    have b3 := B.2.2.1
    have R0 := R
    obtain ⟨r1, r2, r3⟩ := R0
    have d := r2 p (by omega) (by omega)
    have st := R.step (by omega) d
    have d0 := d
    unfold isDg at d0
    have by_ := y_byteAt (J := J) F B (i := p) (by omega)
    have rg := B.2.2.2 p (by omega) (by omega)
    have dg := y_isDigit (c := b p) (h := em V J z) rg
    rw [bz_T d0] at dg
    have mn := y_min (a := x * 10 + b p - 48) (b := 10000) (h := em V J z) (by omega)
    have e1 := ih (p + 1) (min (x * 10 + b p - 48) 10000) st.2 (by omega) (by omega) (by omega)
    rw [show p + 1 - s = p - s + 1 by omega] at e1
    show _ = (some (Value.int (iv e), em (tkd V 38 (nmC b (p + 1) m (min (x * 10 + b p - 48) 10000)) s) J z) : Rs)
    rw [← e1]
    (rw [q_Tape_cutNumber_7]; simp (disch := first | decide | omega | (simp (disch := first | decide | omega) only [sv_s, sv_o, ur_s, ur_e, ur_o]; omega)) only [↓reduceIte, iv_add, iv_sub, iv_mul, iv_neg, iv_ltT, iv_ltF, iv_leT, iv_leF, iv_eqT, iv_eqF, iv_div, iv_mod, ↓bnI_s, ↓bnV_s, ↓bnJ_s, ↓bnR_s, rt_e, rt_0, rt_bz, sv_s, sv_o, ur_s, ur_e, ur_o, bz_T, bz_F, nat_eqF, Nat.reduceAdd, il_0, il_1, il_7, il_10, il_38, il_48, il_300, il_10000, by_, dg, mn])
/-- the words stand outside -/
def Wsd (V : Vm) : Prop := V 3 1 = 0 ∧ V 2 1 = 0 ∧ (∀ k : Nat, k < 131 → V 5 k = (xb3.getD k 0).toInt) ∧ ∀ k : Nat, k < 11 → V 4 k = (xb2.getD k 0).toInt
theorem gd_3 (F : Fix z) {r : Rs} : grd (Nat.beq (mS (em V J z) 3).1 28) r = r := grd_z (f_s3 F)
theorem gd_2 (F : Fix z) {r : Rs} : grd (Nat.beq (mS (em V J z) 2).1 28) r = r := grd_z (f_s2 F)
theorem y_len3 (F : Fix z) (W : Wsd V) : cA m_String_length [.ref 3] (em V J z) = some (.int (iv 131), em V J z) := by
  have w := W.1
  simp (disch := first | decide | omega | (simp (disch := first | decide | omega) only [sv_s, sv_o, ur_s, ur_e, ur_o]; omega)) only [↓reduceIte, iv_add, iv_sub, iv_mul, iv_neg, iv_ltT, iv_ltF, iv_leT, iv_leF, iv_eqT, iv_eqF, iv_div, iv_mod, ↓bnI_s, ↓bnV_s, ↓bnJ_s, ↓bnR_s, rt_e, rt_0, rt_bz, sv_s, sv_o, ur_s, ur_e, ur_o, bz_T, bz_F, nat_eqF, Nat.reduceAdd, ↓q_String_length, ↓q_String_coder, ↓nI_18 F, ↓nI_19 F, ↓nI_20 F, ↓nI_22 F, ↓nI_23 F, ↓nI_25 F, ↓nI_26 F, ↓nI_28 F, ↓nI_29 F, ↓nI_418 F, ↓nI_420 F, ↓nI_421 F, ↓nI_422 F, ↓nI_423 F, ↓nI_425 F, ↓nI_426 F, ↓nI_428 F, ↓nI_429 F, ↓nI_432 F, ↓nI_433 F, ↓nI_434 F, il_0, il_1, il_3, il_12, il_28, il_31, ↓gfR_e (ci := 12) (f_s3 F), ↓gfI_e (ci := 12) (f_s3 F), ↓gd_3 F, f_r3 F, ↓alN_e (f_s5 F) rfl, w, rt_3, sh_131, Int.cast_ofNat_Int]
theorem y_len2 (F : Fix z) (W : Wsd V) : cA m_String_length [.ref 2] (em V J z) = some (.int (iv 11), em V J z) := by
  have w := W.2.1
  simp (disch := first | decide | omega | (simp (disch := first | decide | omega) only [sv_s, sv_o, ur_s, ur_e, ur_o]; omega)) only [↓reduceIte, iv_add, iv_sub, iv_mul, iv_neg, iv_ltT, iv_ltF, iv_leT, iv_leF, iv_eqT, iv_eqF, iv_div, iv_mod, ↓bnI_s, ↓bnV_s, ↓bnJ_s, ↓bnR_s, rt_e, rt_0, rt_bz, sv_s, sv_o, ur_s, ur_e, ur_o, bz_T, bz_F, nat_eqF, Nat.reduceAdd, ↓q_String_length, ↓q_String_coder, ↓nI_18 F, ↓nI_19 F, ↓nI_20 F, ↓nI_22 F, ↓nI_23 F, ↓nI_25 F, ↓nI_26 F, ↓nI_28 F, ↓nI_29 F, ↓nI_418 F, ↓nI_420 F, ↓nI_421 F, ↓nI_422 F, ↓nI_423 F, ↓nI_425 F, ↓nI_426 F, ↓nI_428 F, ↓nI_429 F, ↓nI_432 F, ↓nI_433 F, ↓nI_434 F, il_0, il_1, il_3, il_12, il_28, il_31, ↓gfR_e (ci := 12) (f_s2 F), ↓gfI_e (ci := 12) (f_s2 F), ↓gd_2 F, f_r2 F, ↓alN_e (f_s4 F) rfl, w, rt_3, sh_11, Int.cast_ofNat_Int]
theorem y_charAt (F : Fix z) (W : Wsd V) {i c : Int} (hi : 0 ≤ i ∧ i < 131) (hv : V 5 i = c) (hc : 0 ≤ c ∧ c < 256) : cA m_String_charAt [.ref 3, .int (iv i)] (em V J z) = some (.int (iv c), em V J z) := by
  have w := W.1
  have ck := y_chk (x := i) (y := 131) (h := em V J z) (by omega)
  have ch := (ch_at hc).1
  simp (disch := first | decide | omega | (simp (disch := first | decide | omega) only [sv_s, sv_o, ur_s, ur_e, ur_o]; omega)) only [↓reduceIte, iv_add, iv_sub, iv_mul, iv_neg, iv_ltT, iv_ltF, iv_leT, iv_leF, iv_eqT, iv_eqF, iv_div, iv_mod, ↓bnI_s, ↓bnV_s, ↓bnJ_s, ↓bnR_s, rt_e, rt_0, rt_bz, sv_s, sv_o, ur_s, ur_e, ur_o, bz_T, bz_F, nat_eqF, Nat.reduceAdd, ↓q_String_charAt, ↓q_String_isLatin1, ↓q_StringLatin1_charAt, ↓q_String_checkIndex, ↓lI_18 F, ↓lI_19 F, ↓lI_20 F, ↓lI_22 F, ↓lI_23 F, ↓lI_25 F, ↓lI_26 F, ↓lI_28 F, ↓lI_29 F, ↓lI_418 F, ↓lI_420 F, ↓lI_421 F, ↓lI_422 F, ↓lI_423 F, ↓lI_425 F, ↓lI_426 F, ↓lI_428 F, ↓lI_429 F, ↓lI_432 F, ↓lI_433 F, ↓lI_434 F, ↓nI_18 F, ↓nI_19 F, ↓nI_20 F, ↓nI_22 F, ↓nI_23 F, ↓nI_25 F, ↓nI_26 F, ↓nI_28 F, ↓nI_29 F, ↓nI_418 F, ↓nI_420 F, ↓nI_421 F, ↓nI_422 F, ↓nI_423 F, ↓nI_425 F, ↓nI_426 F, ↓nI_428 F, ↓nI_429 F, ↓nI_432 F, ↓nI_433 F, ↓nI_434 F, il_0, il_1, il_2, il_12, il_28, il_255, il_65536, ↓gfR_e (ci := 12) (f_s3 F), ↓gfI_e (ci := 12) (f_s3 F), ↓gd_3 F, f_r3 F, ↓alN_e (f_s5 F) rfl, ↓ldBx_e (f_s5 F), w, ck, hv, ch, rt_2, rt_0, Int.cast_ofNat_Int]
theorem y_wk_w (F : Fix z) (B : By V b n) (W : Wsd V) {f t k : Int} (hf : 0 ≤ f ∧ f ≤ t ∧ t ≤ n) (hk : 0 ≤ k ∧ k < 30) : ∀ (w : List Int) (s : Nat) (pl : Int) (sm : Bool), (∀ j, j < w.length → V 5 ((s + j : Nat) : Int) = w.getD j 0) → (∀ x ∈ w, 97 ≤ x ∧ x ≤ 122) → V 5 ((s + w.length : Nat) : Int) = 32 → s + w.length < 131 → (0 ≤ pl ∧ pl ≤ f + s) → rX m_Tape_wordKind m_Tape_wordKind 11 [.ref 419, .int (iv f), .int (iv t), .int (iv k), .int (iv pl), .int (iv (if sm = true then 1 else 0)), .int (iv s), dd] [] (em V J z) = if mtc b t w pl sm = true then some (.int (iv k), em V J z) else rX m_Tape_wordKind m_Tape_wordKind 11 [.ref 419, .int (iv f), .int (iv t), .int (iv (k + 1)), .int (iv f), .int (iv 1), .int (iv ((s + w.length + 1 : Nat) : Int)), dd] [] (em V J z) := by
  have ln := y_len3 (V := V) (J := J) F W
  have b3 := B.2.2.1
  intro w
  induction w with
  | nil =>
    intro s pl sm h1 h2 h3 h4 hp
    have h4' : s < 131 := h4
    have ch := y_charAt (J := J) F W (i := (s : Int)) (c := 32) (by omega) h3 (by decide)
    have es : ((s + ([] : List Int).length + 1 : Nat) : Int) = (s : Int) + 1 := by simp
    rw [es]
    show _ = if (sm && decide (pl = t)) = true then _ else _
    cases sm with
    | false =>
      rw [if_neg (by decide), if_neg (by simp)]
      (rw [q_Tape_wordKind_11]; simp (disch := first | decide | omega | (simp (disch := first | decide | omega) only [sv_s, sv_o, ur_s, ur_e, ur_o]; omega)) only [↓reduceIte, iv_add, iv_sub, iv_mul, iv_neg, iv_ltT, iv_ltF, iv_leT, iv_leF, iv_eqT, iv_eqF, iv_div, iv_mod, ↓bnI_s, ↓bnV_s, ↓bnJ_s, ↓bnR_s, rt_e, rt_0, rt_bz, sv_s, sv_o, ur_s, ur_e, ur_o, bz_T, bz_F, nat_eqF, Nat.reduceAdd, il_0, il_1, il_3, il_11, il_32, il_39, ln, ch])
    | true =>
      rw [if_pos rfl]
      by_cases q : pl = t
      · rw [decide_eq_true q, if_pos (show (true && true) = true from rfl)]
        (rw [q_Tape_wordKind_11]; simp (disch := first | decide | omega | (simp (disch := first | decide | omega) only [sv_s, sv_o, ur_s, ur_e, ur_o]; omega)) only [↓reduceIte, iv_add, iv_sub, iv_mul, iv_neg, iv_ltT, iv_ltF, iv_leT, iv_leF, iv_eqT, iv_eqF, iv_div, iv_mod, ↓bnI_s, ↓bnV_s, ↓bnJ_s, ↓bnR_s, rt_e, rt_0, rt_bz, sv_s, sv_o, ur_s, ur_e, ur_o, bz_T, bz_F, nat_eqF, Nat.reduceAdd, il_0, il_1, il_3, il_11, il_32, il_39, ln, ch])
      · rw [decide_eq_false q, if_neg (by simp)]
        have q' : pl < t ∨ t < pl := by omega
        (rw [q_Tape_wordKind_11]; simp (disch := first | decide | omega | (simp (disch := first | decide | omega) only [sv_s, sv_o, ur_s, ur_e, ur_o]; omega)) only [↓reduceIte, iv_add, iv_sub, iv_mul, iv_neg, iv_ltT, iv_ltF, iv_leT, iv_leF, iv_eqT, iv_eqF, iv_div, iv_mod, ↓bnI_s, ↓bnV_s, ↓bnJ_s, ↓bnR_s, rt_e, rt_0, rt_bz, sv_s, sv_o, ur_s, ur_e, ur_o, bz_T, bz_F, nat_eqF, Nat.reduceAdd, il_0, il_1, il_3, il_11, il_32, il_39, ln, ch])
  | cons c w ih =>
    intro s pl sm h1 h2 h3 h4 hp
    have hl : (c :: w).length = w.length + 1 := rfl
    rw [hl] at h3 h4
    have c0 : V 5 (s : Int) = c := h1 0 (by rw [hl]; omega)
    have cr := h2 c (List.mem_cons_self)
    have ch := y_charAt (J := J) F W (i := (s : Int)) (c := c) (by omega) c0 (by omega)
    have nx := ih (s + 1) (pl + 1) (sm && decide (pl < t) && decide (b pl = c)) (fun j hj => by
      have q := h1 (j + 1) (by rw [hl]; omega)
      rw [show s + 1 + j = s + (j + 1) by omega]
      exact q) (fun x hx => h2 x (List.mem_cons_of_mem _ hx)) (by rw [show s + 1 + w.length = s + (w.length + 1) by omega]; exact h3) (by omega) (by omega)
    rw [show s + 1 + w.length + 1 = s + (c :: w).length + 1 by rw [hl]; omega] at nx
    show _ = if mtc b t w (pl + 1) (sm && decide (pl < t) && decide (b pl = c)) = true then _ else _
    rw [← nx]
    have es : ((s + 1 : Nat) : Int) = (s : Int) + 1 := by omega
    rw [es]
    cases sm with
    | false =>
      show _ = rX m_Tape_wordKind m_Tape_wordKind 11 [.ref 419, .int (iv f), .int (iv t), .int (iv k), .int (iv (pl + 1)), .int (iv 0), .int (iv ((s : Int) + 1)), dd] [] (em V J z)
      rw [if_neg (by decide)]
      (rw [q_Tape_wordKind_11]; simp (disch := first | decide | omega | (simp (disch := first | decide | omega) only [sv_s, sv_o, ur_s, ur_e, ur_o]; omega)) only [↓reduceIte, iv_add, iv_sub, iv_mul, iv_neg, iv_ltT, iv_ltF, iv_leT, iv_leF, iv_eqT, iv_eqF, iv_div, iv_mod, ↓bnI_s, ↓bnV_s, ↓bnJ_s, ↓bnR_s, rt_e, rt_0, rt_bz, sv_s, sv_o, ur_s, ur_e, ur_o, bz_T, bz_F, nat_eqF, Nat.reduceAdd, il_0, il_1, il_3, il_11, il_32, il_39, ln, ch])
    | true =>
      rw [if_pos rfl]
      by_cases q : pl < t
      · have by_ := y_byteAt (J := J) F B (i := pl) (by omega)
        have rg := B.2.2.2 pl (by omega) (by omega)
        rw [decide_eq_true q]
        by_cases q2 : b pl = c
        · rw [decide_eq_true q2]
          show _ = rX m_Tape_wordKind m_Tape_wordKind 11 [.ref 419, .int (iv f), .int (iv t), .int (iv k), .int (iv (pl + 1)), .int (iv 1), .int (iv ((s : Int) + 1)), dd] [] (em V J z)
          rw [q2] at by_
          (rw [q_Tape_wordKind_11]; simp (disch := first | decide | omega | (simp (disch := first | decide | omega) only [sv_s, sv_o, ur_s, ur_e, ur_o]; omega)) only [↓reduceIte, iv_add, iv_sub, iv_mul, iv_neg, iv_ltT, iv_ltF, iv_leT, iv_leF, iv_eqT, iv_eqF, iv_div, iv_mod, ↓bnI_s, ↓bnV_s, ↓bnJ_s, ↓bnR_s, rt_e, rt_0, rt_bz, sv_s, sv_o, ur_s, ur_e, ur_o, bz_T, bz_F, nat_eqF, Nat.reduceAdd, il_0, il_1, il_3, il_11, il_32, il_39, ln, ch, by_])
        · rw [decide_eq_false q2]
          show _ = rX m_Tape_wordKind m_Tape_wordKind 11 [.ref 419, .int (iv f), .int (iv t), .int (iv k), .int (iv (pl + 1)), .int (iv 0), .int (iv ((s : Int) + 1)), dd] [] (em V J z)
          have q2' : b pl < c ∨ c < b pl := by omega
          (rw [q_Tape_wordKind_11]; simp (disch := first | decide | omega | (simp (disch := first | decide | omega) only [sv_s, sv_o, ur_s, ur_e, ur_o]; omega)) only [↓reduceIte, iv_add, iv_sub, iv_mul, iv_neg, iv_ltT, iv_ltF, iv_leT, iv_leF, iv_eqT, iv_eqF, iv_div, iv_mod, ↓bnI_s, ↓bnV_s, ↓bnJ_s, ↓bnR_s, rt_e, rt_0, rt_bz, sv_s, sv_o, ur_s, ur_e, ur_o, bz_T, bz_F, nat_eqF, Nat.reduceAdd, il_0, il_1, il_3, il_11, il_32, il_39, ln, ch, by_])
      · rw [decide_eq_false q]
        show _ = rX m_Tape_wordKind m_Tape_wordKind 11 [.ref 419, .int (iv f), .int (iv t), .int (iv k), .int (iv (pl + 1)), .int (iv 0), .int (iv ((s : Int) + 1)), dd] [] (em V J z)
        (rw [q_Tape_wordKind_11]; simp (disch := first | decide | omega | (simp (disch := first | decide | omega) only [sv_s, sv_o, ur_s, ur_e, ur_o]; omega)) only [↓reduceIte, iv_add, iv_sub, iv_mul, iv_neg, iv_ltT, iv_ltF, iv_leT, iv_leF, iv_eqT, iv_eqF, iv_div, iv_mod, ↓bnI_s, ↓bnV_s, ↓bnJ_s, ↓bnR_s, rt_e, rt_0, rt_bz, sv_s, sv_o, ur_s, ur_e, ur_o, bz_T, bz_F, nat_eqF, Nat.reduceAdd, il_0, il_1, il_3, il_11, il_32, il_39, ln, ch])
theorem wdp_25 : wdp 25 = 131 := by decide
theorem y_wk_l (F : Fix z) (B : By V b n) (W : Wsd V) {f t : Int} (hf : 0 ≤ f ∧ f ≤ t ∧ t ≤ n) : ∀ (m i : Nat), i + m = 25 → (∀ j, j < i → WL.getD j [] ≠ fwl b f (t - f).toNat) → ∃ k, WK (fwl b f (t - f).toNat) k ∧ rX m_Tape_wordKind m_Tape_wordKind 11 [.ref 419, .int (iv f), .int (iv t), .int (iv i), .int (iv f), .int (iv 1), .int (iv (wdp i)), dd] [] (em V J z) = some (.int (iv k), em V J z) := by
  intro m
  induction m with
  | zero =>
    intro i hi no
    have i25 : i = 25 := by omega
    subst i25
    have ln := y_len3 (V := V) (J := J) F W
    refine ⟨39, Or.inr ⟨rfl, no⟩, ?_⟩
    rw [wdp_25]
    have e : ((131 : Nat) : Int) = 131 := rfl
    rw [e]
    (rw [q_Tape_wordKind_11]; simp (disch := first | decide | omega | (simp (disch := first | decide | omega) only [sv_s, sv_o, ur_s, ur_e, ur_o]; omega)) only [↓reduceIte, iv_add, iv_sub, iv_mul, iv_neg, iv_ltT, iv_ltF, iv_leT, iv_leF, iv_eqT, iv_eqF, iv_div, iv_mod, ↓bnI_s, ↓bnV_s, ↓bnJ_s, ↓bnR_s, rt_e, rt_0, rt_bz, sv_s, sv_o, ur_s, ur_e, ur_o, bz_T, bz_F, nat_eqF, Nat.reduceAdd, il_0, il_1, il_3, il_11, il_32, il_39, ln])
  | succ m ih =>
    intro i hi no
    have wb := WB_at (i := i) (by omega)
    have l := y_wk_w (J := J) F B W (f := f) (t := t) (k := (i : Int)) hf (by omega) (WL.getD i []) (wdp i) f true (fun j hj => (W.2.2.1 _ (wb.1 j hj).2).trans (wb.1 j hj).1) wb.2.2.2.2.1 ((W.2.2.1 _ wb.2.2.1).trans wb.2.1) wb.2.2.1 (by omega)
    rw [if_pos rfl] at l
    by_cases q : WL.getD i [] = fwl b f (t - f).toNat
    · refine ⟨i, Or.inl ⟨i, by omega, rfl, q⟩, ?_⟩
      rw [l, if_pos ((mtc_T (WL.getD i []) (t - f).toNat f (by omega)).mpr q)]
    · rw [if_neg (fun x => q ((mtc_T (WL.getD i []) (t - f).toNat f (by omega)).mp x)), ← wb.2.2.2.1, show ((i : Int) + 1) = ((i + 1 : Nat) : Int) by omega] at l
      obtain ⟨k, k1, k2⟩ := ih (i + 1) (by omega) (fun j hj => by
        by_cases e : j = i
        · rw [e]; exact q
        · exact no j (by omega))
      exact ⟨k, k1, l.trans k2⟩
theorem y_wordKind (F : Fix z) (B : By V b n) (W : Wsd V) {f t : Int} (hf : 0 ≤ f ∧ f ≤ t ∧ t ≤ n) : ∃ k, WK (fwl b f (t - f).toNat) k ∧ cA m_Tape_wordKind [.ref 419, .int (iv f), .int (iv t)] (em V J z) = some (.int (iv k), em V J z) := by
  obtain ⟨k, k1, k2⟩ := y_wk_l (J := J) F B W hf 25 0 rfl (fun j hj => absurd hj (by omega))
  refine ⟨k, k1, ?_⟩
  rw [q_Tape_wordKind, gd_419 F, il_0, il_1]
  exact k2
theorem y_cutWord_l (F : Fix z) (B : By V b n) (W : Wsd V) {s e : Int} (hs : 0 ≤ s ∧ s ≤ e ∧ e ≤ n) (ht : 0 ≤ V 419 5 ∧ V 419 5 ≤ 300) : ∃ k, WK (fwl b s (e - s).toNat) k ∧ ∀ (m : Nat) (p : Int), Rn isLt b n p e → p + m = e → s ≤ p → rX m_Tape_cutWord m_Tape_cutWord 4 [.ref 419, .int (iv s), .int (iv p), .int (iv (p - s))] [] (em V J z) = some (.int (iv e), em (tkd V k 0 s) J z) := by
  obtain ⟨k, k1, k2⟩ := y_wordKind (J := J) F B W hs
  refine ⟨k, k1, ?_⟩
  have b3 := B.2.2.1
  have kr := k1.rg
  have ad := y_addToken (V := V) (J := J) F (k := k) (v := 0) (p := s) ht
  intro m
  induction m with
  | zero =>
    intro p R hp sp
    obtain ⟨r1, r2, r3⟩ := R
    have pe : p = e := by omega
    subst pe
    by_cases q : p - s < 300
    · by_cases w : p < n
      · have nd := r3 w
        unfold isLt at nd
        have by_ := y_byteAt (J := J) F B (i := p) (by omega)
        have rg := B.2.2.2 p (by omega) w
        have dg := y_isLetter (c := b p) (h := em V J z) rg
        rw [bz_F nd] at dg
        (rw [q_Tape_cutWord_4]; simp (disch := first | decide | omega | (simp (disch := first | decide | omega) only [sv_s, sv_o, ur_s, ur_e, ur_o]; omega)) only [↓reduceIte, iv_add, iv_sub, iv_mul, iv_neg, iv_ltT, iv_ltF, iv_leT, iv_leF, iv_eqT, iv_eqF, iv_div, iv_mod, ↓bnI_s, ↓bnV_s, ↓bnJ_s, ↓bnR_s, rt_e, rt_0, rt_bz, sv_s, sv_o, ur_s, ur_e, ur_o, bz_T, bz_F, nat_eqF, Nat.reduceAdd, il_0, il_1, il_4, il_300, by_, dg, k2, ad])
      · have by_ := y_byteAt0 (J := J) F B (i := p) (by omega)
        have dg := y_isLetter (c := 0) (h := em V J z) (by omega)
        rw [bz_F (by omega)] at dg
        (rw [q_Tape_cutWord_4]; simp (disch := first | decide | omega | (simp (disch := first | decide | omega) only [sv_s, sv_o, ur_s, ur_e, ur_o]; omega)) only [↓reduceIte, iv_add, iv_sub, iv_mul, iv_neg, iv_ltT, iv_ltF, iv_leT, iv_leF, iv_eqT, iv_eqF, iv_div, iv_mod, ↓bnI_s, ↓bnV_s, ↓bnJ_s, ↓bnR_s, rt_e, rt_0, rt_bz, sv_s, sv_o, ur_s, ur_e, ur_o, bz_T, bz_F, nat_eqF, Nat.reduceAdd, il_0, il_1, il_4, il_300, by_, dg, k2, ad])
    · (rw [q_Tape_cutWord_4]; simp (disch := first | decide | omega | (simp (disch := first | decide | omega) only [sv_s, sv_o, ur_s, ur_e, ur_o]; omega)) only [↓reduceIte, iv_add, iv_sub, iv_mul, iv_neg, iv_ltT, iv_ltF, iv_leT, iv_leF, iv_eqT, iv_eqF, iv_div, iv_mod, ↓bnI_s, ↓bnV_s, ↓bnJ_s, ↓bnR_s, rt_e, rt_0, rt_bz, sv_s, sv_o, ur_s, ur_e, ur_o, bz_T, bz_F, nat_eqF, Nat.reduceAdd, il_0, il_1, il_4, il_300, k2, ad])
  | succ m ih =>
    intro p R hp sp
    have R0 := R
    obtain ⟨r1, r2, r3⟩ := R0
    have d := r2 p (by omega) (by omega)
    have st := R.step (by omega) d
    have d0 := d
    unfold isLt at d0
    have by_ := y_byteAt (J := J) F B (i := p) (by omega)
    have rg := B.2.2.2 p (by omega) (by omega)
    have dg := y_isLetter (c := b p) (h := em V J z) rg
    rw [bz_T d0] at dg
    have e1 := ih (p + 1) st.2 (by omega) (by omega)
    rw [show p + 1 - s = p - s + 1 by omega] at e1
    rw [← e1]
    (rw [q_Tape_cutWord_4]; simp (disch := first | decide | omega | (simp (disch := first | decide | omega) only [sv_s, sv_o, ur_s, ur_e, ur_o]; omega)) only [↓reduceIte, iv_add, iv_sub, iv_mul, iv_neg, iv_ltT, iv_ltF, iv_leT, iv_leF, iv_eqT, iv_eqF, iv_div, iv_mod, ↓bnI_s, ↓bnV_s, ↓bnJ_s, ↓bnR_s, rt_e, rt_0, rt_bz, sv_s, sv_o, ur_s, ur_e, ur_o, bz_T, bz_F, nat_eqF, Nat.reduceAdd, il_0, il_1, il_4, il_300, by_, dg])
end
