/-! THE LEAST SAID -/
def pcN (s : Nat) : Nat := s % 2 + s / 2 % 2 + s / 4 % 2 + s / 8 % 2 + s / 16 % 2 + s / 32 % 2 + s / 64 % 2 + s / 128 % 2
def chkS8 : Bool := (List.range 256).all fun s => decide (BC (nI s) = nI (pcN s)) && decide (nI s &&& (nI s - 1) = nI (s &&& (s - 1))) && (Nat.beq s 0 || (Nat.blt (s &&& (s - 1)) s && Nat.beq (pcN (s &&& (s - 1)) + 1) (pcN s))) && (List.range 8).all fun k => decide ((nI s >>> (nI k &&& 31)) &&& 1 = nI (s / 2 ^ k % 2))
set_option maxRecDepth 100000 in
theorem chk_S8 : chkS8 = true := by decide +kernel
theorem S8_at {s : Nat} (h : s < 256) : BC (iv (s : Int)) = iv (pcN s : Int) ∧ iv (s : Int) &&& iv ((s : Int) - 1) = iv ((s &&& (s - 1) : Nat) : Int) ∧ (0 < s → (s &&& (s - 1)) < s ∧ pcN (s &&& (s - 1)) + 1 = pcN s) ∧ ∀ k : Nat, k < 8 → (iv (s : Int) >>> (iv (k : Int) &&& iv 31)) &&& iv 1 = iv ((s / 2 ^ k % 2 : Nat) : Int) := by
  have q := List.all_eq_true.mp chk_S8 s (mem_rg h)
  simp only [Bool.and_eq_true, decide_eq_true_eq, Bool.or_eq_true] at q
  obtain ⟨⟨⟨q1, q2⟩, q3⟩, q4⟩ := q
  refine ⟨?_, ?_, fun h0 => ?_, fun k hk => ?_⟩
  · rw [iv_nat, iv_nat]; exact q1
  · rw [← iv_sub, iv_nat, iv_nat]; exact q2
  · rcases q3 with q3 | q3
    · exact absurd (Nat.eq_of_beq_eq_true q3) (by omega)
    · exact ⟨Nat.blt_eq.mp q3.1, Nat.eq_of_beq_eq_true q3.2⟩
  · have := List.all_eq_true.mp q4 k (mem_rg hk)
    rw [iv_nat, iv_nat, iv_nat]
    exact of_decide_eq_true this
theorem pcN_le (s : Nat) : pcN s ≤ 8 := by unfold pcN; omega
/-- the sum of a row over a set -/
def sm (R : Int → Int) (s : Nat) : Nat → Int
  | 0 => 0
  | k + 1 => sm R s k + R k * ((s / 2 ^ k % 2 : Nat) : Int)
theorem sm_hi {R : Int → Int} {s c : Nat} (h : s < 2 ^ c) : ∀ m, sm R s (c + m) = sm R s c := by
  intro m
  induction m with
  | zero => rfl
  | succ m ih =>
    show sm R s (c + m) + R ((c + m : Nat) : Int) * ((s / 2 ^ (c + m) % 2 : Nat) : Int) = sm R s c
    have : s / 2 ^ (c + m) = 0 := Nat.div_eq_of_lt (Nat.lt_of_lt_of_le h (Nat.pow_le_pow_right (by omega) (by omega)))
    rw [ih, this]
    show sm R s c + R ((c + m : Nat) : Int) * 0 = sm R s c
    rw [Int.mul_zero, Int.add_zero]
theorem sm_rg {R : Int → Int} {s : Nat} : ∀ c : Nat, (∀ k : Int, 0 ≤ k → k < c → 0 ≤ R k ∧ R k ≤ 99) → 0 ≤ sm R s c ∧ sm R s c ≤ 99 * c := by
  intro c
  induction c with
  | zero => intro _; exact ⟨Int.le_refl _, Int.le_refl _⟩
  | succ c ih =>
    intro h
    have a := ih (fun k k0 k1 => h k k0 (by omega))
    have b := h c (by omega) (by omega)
    show 0 ≤ sm R s c + R c * ((s / 2 ^ c % 2 : Nat) : Int) ∧ sm R s c + R c * ((s / 2 ^ c % 2 : Nat) : Int) ≤ 99 * ((c + 1 : Nat) : Int)
    rcases (show s / 2 ^ c % 2 = 0 ∨ s / 2 ^ c % 2 = 1 by omega) with e | e <;> rw [e] <;> omega
theorem shl8 {c : Int} (hc : 0 ≤ c ∧ c ≤ 8) : iv 1 <<< (iv c &&& iv 31) = iv ((2 ^ c.toNat : Nat) : Int) := by
  rcases (show c = 0 ∨ c = 1 ∨ c = 2 ∨ c = 3 ∨ c = 4 ∨ c = 5 ∨ c = 6 ∨ c = 7 ∨ c = 8 by omega) with rfl | rfl | rfl | rfl | rfl | rfl | rfl | rfl | rfl <;> rfl
section
variable {V J : Vm} {z : Zz}
theorem y_X_sum_l {a : Nat} (sh : z.2.1 a = (1, 8)) {s : Nat} (hs : s < 256) : ∀ (m k : Nat), k + m = 8 → rX m_X_sumOf m_X_sumOf 4 [.ref a, .int (iv s), .int (iv (sm (V a) s k)), .int (iv k)] [] (em V J z) = some (.int (iv (sm (V a) s 8)), em V J z) := by
  have b := (S8_at hs).2.2.2
  intro m
  induction m with
  | zero =>
    intro k hk
    have e : k = 8 := by omega
    subst e
    rw [q_X_sumOf_4, alN_e sh rfl, if_neg (of_eq_false (iv_ltF (by omega)))]
  | succ m ih =>
    intro k hk
    rw [← ih (k + 1) (by omega), q_X_sumOf_4, alN_e sh rfl, if_pos (of_eq_true (iv_ltT (by omega))), ldI_e sh (by omega) (by decide), il_31, il_1, b k (by omega), iv_mul, iv_add, iv_add]
    rfl
theorem y_X_sumOf {a : Nat} (sh : z.2.1 a = (1, 8)) {s : Nat} (hs : s < 256) : cA m_X_sumOf [.ref a, .int (iv s)] (em V J z) = some (.int (iv (sm (V a) s 8)), em V J z) := by
  rw [q_X_sumOf, il_0]
  exact y_X_sum_l sh hs 8 0 (by omega)
theorem sb_bit {s k : Nat} (hs : s < 256) (hk : k < 8) : sb (s : Int) (k : Int) ↔ s / 2 ^ k % 2 = 1 := by
  have b := (S8_at hs).2.2.2 k hk
  unfold sb
  rw [b]
  constructor
  · intro e
    have q := congrArg Int32.toInt e
    rw [iv_toInt (by omega), iv_toInt (by omega)] at q
    omega
  · intro e; rw [e]; rfl
theorem y_M_sum_l (F : Fix z) {R : Int → Int} {w : Int} (hw : w = 0 ∨ w = 1) (hc : 0 ≤ V 436 5 ∧ V 436 5 ≤ 8) (hR : ∀ k, 0 ≤ k → k < V 436 5 → V 436 (133 + 2 * k + w) = R k) {s : Nat} (hs : s < 256) : ∀ (m k : Nat), k + m = V 436 5 → rX m_M_sumOf m_M_sumOf 5 [.ref 435, .int (iv s), .int (iv w), .int (iv (sm R s k)), .int (iv k)] [] (em V J z) = some (.int (iv (sm R s (V 436 5).toNat)), em V J z) := by
  intro m
  induction m with
  | zero =>
    intro k hk
    rw [show (V 436 5).toNat = k by omega]
    (rw [q_M_sumOf_5]; simp (disch := first | decide | omega | (simp (disch := first | decide | omega) only [sv_s, sv_o, ur_s, ur_e, ur_o]; omega)) only [↓reduceIte, iv_add, iv_sub, iv_mul, iv_neg, iv_ltT, iv_ltF, iv_leT, iv_leF, iv_eqT, iv_eqF, iv_div, iv_mod, ↓bnI_s, ↓bnV_s, ↓bnJ_s, ↓bnR_s, rt_e, rt_0, rt_bz, sv_s, sv_o, ur_s, ur_e, ur_o, bz_T, bz_F, nat_eqF, Nat.reduceAdd, ↓gR_435_0 F, ↓lI_436 F, ↓lI_437 F, ↓lI_438 F, ↓lI_439 F, ↓lI_440 F, ↓lI_441 F, ↓lI_443 F, ↓lI_444 F, ↓lI_445 F, ↓lI_446 F, ↓lI_447 F, ↓lI_448 F, ↓lI_449 F, ↓lI_450 F, il_0, il_1, il_2, il_5, il_11, il_133])
  | succ m ih =>
    intro k hk
    rw [← ih (k + 1) (by omega)]
    have r := hR k (by omega) (by omega)
    have b := sb_bit (s := s) (k := k) hs (by omega)
    have hh := y_M_has (s := s) (k := k) (h := em V J z)
    show _ = rX m_M_sumOf m_M_sumOf 5 [.ref 435, .int (iv s), .int (iv w), .int (iv (sm R s k + R k * ((s / 2 ^ k % 2 : Nat) : Int))), .int (iv ((k + 1 : Nat) : Int))] [] (em V J z)
    by_cases q : sb s k
    · rw [bz_T q] at hh
      rw [b.mp q, show R k * ((1 : Nat) : Int) = R k by omega]
      (rw [q_M_sumOf_5]; simp (disch := first | decide | omega | (simp (disch := first | decide | omega) only [sv_s, sv_o, ur_s, ur_e, ur_o]; omega)) only [↓reduceIte, iv_add, iv_sub, iv_mul, iv_neg, iv_ltT, iv_ltF, iv_leT, iv_leF, iv_eqT, iv_eqF, iv_div, iv_mod, ↓bnI_s, ↓bnV_s, ↓bnJ_s, ↓bnR_s, rt_e, rt_0, rt_bz, sv_s, sv_o, ur_s, ur_e, ur_o, bz_T, bz_F, nat_eqF, Nat.reduceAdd, ↓gR_435_0 F, ↓lI_436 F, ↓lI_437 F, ↓lI_438 F, ↓lI_439 F, ↓lI_440 F, ↓lI_441 F, ↓lI_443 F, ↓lI_444 F, ↓lI_445 F, ↓lI_446 F, ↓lI_447 F, ↓lI_448 F, ↓lI_449 F, ↓lI_450 F, il_0, il_1, il_2, il_5, il_11, il_133, hh, r, Int.natCast_add, Int.natCast_one])
    · rw [bz_F q] at hh
      rw [show s / 2 ^ k % 2 = 0 from by have : ¬ s / 2 ^ k % 2 = 1 := fun e => q (b.mpr e); omega, show R k * ((0 : Nat) : Int) = 0 by omega]
      (rw [q_M_sumOf_5]; simp (disch := first | decide | omega | (simp (disch := first | decide | omega) only [sv_s, sv_o, ur_s, ur_e, ur_o]; omega)) only [↓reduceIte, iv_add, iv_sub, iv_mul, iv_neg, iv_ltT, iv_ltF, iv_leT, iv_leF, iv_eqT, iv_eqF, iv_div, iv_mod, ↓bnI_s, ↓bnV_s, ↓bnJ_s, ↓bnR_s, rt_e, rt_0, rt_bz, sv_s, sv_o, ur_s, ur_e, ur_o, bz_T, bz_F, nat_eqF, Nat.reduceAdd, ↓gR_435_0 F, ↓lI_436 F, ↓lI_437 F, ↓lI_438 F, ↓lI_439 F, ↓lI_440 F, ↓lI_441 F, ↓lI_443 F, ↓lI_444 F, ↓lI_445 F, ↓lI_446 F, ↓lI_447 F, ↓lI_448 F, ↓lI_449 F, ↓lI_450 F, il_0, il_1, il_2, il_5, il_11, il_133, hh, Int.natCast_add, Int.natCast_one])
theorem y_M_sumOf (F : Fix z) {R : Int → Int} {w : Int} (hw : w = 0 ∨ w = 1) (hc : 0 ≤ V 436 5 ∧ V 436 5 ≤ 8) (hR : ∀ k, 0 ≤ k → k < V 436 5 → V 436 (133 + 2 * k + w) = R k) {s : Nat} (hs : s < 256) : cA m_M_sumOf [.ref 435, .int (iv s), .int (iv w)] (em V J z) = some (.int (iv (sm R s (V 436 5).toNat)), em V J z) := by
  rw [q_M_sumOf, gd_435 F, il_0]
  exact y_M_sum_l F hw hc hR hs (V 436 5).toNat 0 (by omega)
theorem y_bits_l {h : Mem} : ∀ (m s n : Nat), s ≤ m → s < 256 → n + m ≤ 1000 → rX m_M_bits m_M_bits 4 [dd, .int (iv n), .int (iv s)] [] h = some (.int (iv ((n + pcN s : Nat) : Int)), h) := by
  intro m
  induction m with
  | zero =>
    intro s n hs h2 hn
    have e : s = 0 := by omega
    subst e
    rw [q_M_bits_4, il_0, if_pos (show iv ((0 : Nat) : Int) = iv 0 from rfl)]
    rfl
  | succ m ih =>
    intro s n hs h2 hn
    by_cases e : s = 0
    · subst e
      rw [q_M_bits_4, il_0, if_pos (show iv ((0 : Nat) : Int) = iv 0 from rfl)]
      rfl
    · obtain ⟨b1, b2, b3, b4⟩ := S8_at h2
      obtain ⟨c1, c2⟩ := b3 (by omega)
      have p := pcN_le s
      rw [q_M_bits_4, il_0, if_neg (of_eq_false (iv_eqF (by omega))), il_1, iv_sub, b2, iv_add]
      rw [show (n : Int) + 1 = ((n + 1 : Nat) : Int) by omega, ih (s &&& (s - 1)) (n + 1) (by omega) (by omega) (by omega)]
      exact si (by omega)
theorem y_bits {h : Mem} {s : Nat} (hs : s < 256) : cA m_M_bits [.int (iv s)] h = some (.int (iv (pcN s : Nat)), h) := by
  rw [q_M_bits, il_0]
  have q := y_bits_l (h := h) s s 0 (Nat.le_refl _) hs (by omega)
  rw [Nat.zero_add] at q
  exact q
/-- the best set so far, and what it costs -/
def bst (C : Int → Int) (c : Nat) (b x : Int) : Prop := (b = -1 ∧ x = 0) ∨ ∃ t : Nat, t < 2 ^ c ∧ b = t ∧ x = sm C t c
theorem y_least_l (F : Fix z) {C D : Int → Int} {c : Nat} {need l : Int} (hn : 0 ≤ need ∧ need ≤ 999) (hc : V 436 5 = c) (hc8 : c ≤ 8) (h24 : V 24 2 = c) (hX1 : V 25 = C) (hX2 : V 26 = D) (hC : ∀ k : Int, 0 ≤ k → k < c → V 436 (133 + 2 * k + 0) = C k ∧ 0 ≤ C k ∧ C k ≤ 99) (hD : ∀ k : Int, 0 ≤ k → k < c → V 436 (133 + 2 * k + 1) = D k ∧ 0 ≤ D k ∧ D k ≤ 99) : ∀ (m s : Nat) (b x : Int), s + m = 2 ^ c → bst C c b x → ∃ b' x', bst C c b' x' ∧ rX m_X_leastSet m_X_leastSet 7 [.ref 8, .int (iv need), .int (iv b), .int (iv x), .int (iv s), dd, dd] [] (em V J z) = some (.int (iv b'), em V J z) ∧ rX m_M_least m_M_least 18 [.ref 435, .int (iv need), .int (iv l), .int (iv b), .int (iv s), dd] [] (em V J z) = rX m_M_least m_M_least 18 [.ref 435, .int (iv need), .int (iv l), .int (iv b'), .int (iv ((2 ^ c : Nat) : Int)), dd] [] (em V J z) := by
  have p256 : 2 ^ c ≤ 2 ^ 8 := Nat.pow_le_pow_right (by omega) hc8
  have p256 : 2 ^ c ≤ 256 := p256
  have sh : iv 1 <<< (iv (c : Int) &&& iv 31) = iv ((2 ^ c : Nat) : Int) := shl8 (by omega)
  have tn : (V 436 5).toNat = c := by omega
  intro m
  induction m with
  | zero =>
    intro s b x hs hb
    refine ⟨b, x, hb, ?_, by rw [show s = 2 ^ c by omega]⟩
    by_cases q : s < 256
    · (rw [q_X_leastSet_7]; simp (disch := first | decide | omega | (simp (disch := first | decide | omega) only [sv_s, sv_o, ur_s, ur_e, ur_o]; omega)) only [↓reduceIte, iv_add, iv_sub, iv_mul, iv_neg, iv_ltT, iv_ltF, iv_leT, iv_leF, iv_eqT, iv_eqF, iv_div, iv_mod, ↓bnI_s, ↓bnV_s, ↓bnJ_s, ↓bnR_s, rt_e, rt_0, rt_bz, sv_s, sv_o, ur_s, ur_e, ur_o, bz_T, bz_F, nat_eqF, Nat.reduceAdd, ↓gR_8_0 F, ↓gR_9_7 F, ↓gI_21_2 F, ↓gI_24_2 F, ↓gI_27_2 F, ↓gR_21_1 F, ↓gR_24_1 F, ↓gR_27_1 F, ↓gR_21_0 F, ↓gR_24_0 F, ↓gR_27_0 F, il_0, il_1, il_2, il_3, il_7, il_10, il_31, il_94, il_256, h24, sh])
    · (rw [q_X_leastSet_7]; simp (disch := first | decide | omega | (simp (disch := first | decide | omega) only [sv_s, sv_o, ur_s, ur_e, ur_o]; omega)) only [↓reduceIte, iv_add, iv_sub, iv_mul, iv_neg, iv_ltT, iv_ltF, iv_leT, iv_leF, iv_eqT, iv_eqF, iv_div, iv_mod, ↓bnI_s, ↓bnV_s, ↓bnJ_s, ↓bnR_s, rt_e, rt_0, rt_bz, sv_s, sv_o, ur_s, ur_e, ur_o, bz_T, bz_F, nat_eqF, Nat.reduceAdd, ↓gR_8_0 F, ↓gR_9_7 F, ↓gI_21_2 F, ↓gI_24_2 F, ↓gI_27_2 F, ↓gR_21_1 F, ↓gR_24_1 F, ↓gR_27_1 F, ↓gR_21_0 F, ↓gR_24_0 F, ↓gR_27_0 F, il_0, il_1, il_2, il_3, il_7, il_10, il_31, il_94, il_256])
  | succ m ih =>
    intro s b x hs hb
    have s256 : s < 256 := by omega
    have rC := sm_rg (R := C) (s := s) c (fun k k0 k1 => (hC k k0 k1).2)
    have rD := sm_rg (R := D) (s := s) c (fun k k0 k1 => (hD k k0 k1).2)
    have x1 : cA m_X_sumOf [.ref 25, .int (iv s)] (em V J z) = some (.int (iv (sm C s c)), em V J z) := by
      rw [y_X_sumOf (s_25 F) s256, hX1, show 8 = c + (8 - c) by omega, sm_hi (by omega)]
    have x2 : cA m_X_sumOf [.ref 26, .int (iv s)] (em V J z) = some (.int (iv (sm D s c)), em V J z) := by
      rw [y_X_sumOf (s_26 F) s256, hX2, show 8 = c + (8 - c) by omega, sm_hi (by omega)]
    have m1 : cA m_M_sumOf [.ref 435, .int (iv s), .int (iv 0)] (em V J z) = some (.int (iv (sm C s c)), em V J z) := by
      rw [y_M_sumOf F (R := C) (Or.inl rfl) (by omega) (fun k k0 k1 => (hC k k0 (by omega)).1) s256, tn]
    have m2 : cA m_M_sumOf [.ref 435, .int (iv s), .int (iv 1)] (em V J z) = some (.int (iv (sm D s c)), em V J z) := by
      rw [y_M_sumOf F (R := D) (Or.inr rfl) (by omega) (fun k k0 k1 => (hD k k0 (by omega)).1) s256, tn]
    have bs := (S8_at s256).1
    have ps := pcN_le s
    have mb := y_bits (h := em V J z) s256
    have fS : bst C c s (sm C s c) := Or.inr ⟨s, by omega, rfl, rfl⟩
    generalize hq : sm C s c = q at *
    generalize hd : sm D s c = d at *
    by_cases h1 : d < need
    · obtain ⟨b', x', k1, k2, k3⟩ := ih (s + 1) b x (by omega) hb
      refine ⟨b', x', k1, ?_, ?_⟩
      · rw [← k2]
        (rw [q_X_leastSet_7]; simp (disch := first | decide | omega | (simp (disch := first | decide | omega) only [sv_s, sv_o, ur_s, ur_e, ur_o]; omega)) only [↓reduceIte, iv_add, iv_sub, iv_mul, iv_neg, iv_ltT, iv_ltF, iv_leT, iv_leF, iv_eqT, iv_eqF, iv_div, iv_mod, ↓bnI_s, ↓bnV_s, ↓bnJ_s, ↓bnR_s, rt_e, rt_0, rt_bz, sv_s, sv_o, ur_s, ur_e, ur_o, bz_T, bz_F, nat_eqF, Nat.reduceAdd, ↓gR_8_0 F, ↓gR_9_7 F, ↓gI_21_2 F, ↓gI_24_2 F, ↓gI_27_2 F, ↓gR_21_1 F, ↓gR_24_1 F, ↓gR_27_1 F, ↓gR_21_0 F, ↓gR_24_0 F, ↓gR_27_0 F, il_0, il_1, il_2, il_3, il_7, il_10, il_31, il_94, il_256, h24, sh, x2, Int.natCast_add, Int.natCast_one])
      · rw [← k3]
        (rw [q_M_least_18]; simp (disch := first | decide | omega | (simp (disch := first | decide | omega) only [sv_s, sv_o, ur_s, ur_e, ur_o]; omega)) only [↓reduceIte, iv_add, iv_sub, iv_mul, iv_neg, iv_ltT, iv_ltF, iv_leT, iv_leF, iv_eqT, iv_eqF, iv_div, iv_mod, ↓bnI_s, ↓bnV_s, ↓bnJ_s, ↓bnR_s, rt_e, rt_0, rt_bz, sv_s, sv_o, ur_s, ur_e, ur_o, bz_T, bz_F, nat_eqF, Nat.reduceAdd, ↓gR_435_0 F, ↓lI_436 F, ↓lI_437 F, ↓lI_438 F, ↓lI_439 F, ↓lI_440 F, ↓lI_441 F, ↓lI_443 F, ↓lI_444 F, ↓lI_445 F, ↓lI_446 F, ↓lI_447 F, ↓lI_448 F, ↓lI_449 F, ↓lI_450 F, il_0, il_1, il_5, il_11, il_18, il_31, il_68, hc, sh, m2, Int.natCast_add, Int.natCast_one])
    · rcases hb with ⟨rfl, rfl⟩ | ⟨t, t1, rfl, rfl⟩
      · obtain ⟨b', x', k1, k2, k3⟩ := ih (s + 1) s q (by omega) fS
        have b1 : BC (iv (-1)) = iv 32 := by decide +kernel
        refine ⟨b', x', k1, ?_, ?_⟩
        · rw [← k2]
          by_cases q0 : q = 0
          · (rw [q_X_leastSet_7]; simp (disch := first | decide | omega | (simp (disch := first | decide | omega) only [sv_s, sv_o, ur_s, ur_e, ur_o]; omega)) only [↓reduceIte, iv_add, iv_sub, iv_mul, iv_neg, iv_ltT, iv_ltF, iv_leT, iv_leF, iv_eqT, iv_eqF, iv_div, iv_mod, ↓bnI_s, ↓bnV_s, ↓bnJ_s, ↓bnR_s, rt_e, rt_0, rt_bz, sv_s, sv_o, ur_s, ur_e, ur_o, bz_T, bz_F, nat_eqF, Nat.reduceAdd, ↓gR_8_0 F, ↓gR_9_7 F, ↓gI_21_2 F, ↓gI_24_2 F, ↓gI_27_2 F, ↓gR_21_1 F, ↓gR_24_1 F, ↓gR_27_1 F, ↓gR_21_0 F, ↓gR_24_0 F, ↓gR_27_0 F, il_0, il_1, il_2, il_3, il_7, il_10, il_31, il_94, il_256, ↓q_X_leastSet_94, h24, sh, x1, x2, y_bitCount, bs, b1, Int.natCast_add, Int.natCast_one])
          · (rw [q_X_leastSet_7]; simp (disch := first | decide | omega | (simp (disch := first | decide | omega) only [sv_s, sv_o, ur_s, ur_e, ur_o]; omega)) only [↓reduceIte, iv_add, iv_sub, iv_mul, iv_neg, iv_ltT, iv_ltF, iv_leT, iv_leF, iv_eqT, iv_eqF, iv_div, iv_mod, ↓bnI_s, ↓bnV_s, ↓bnJ_s, ↓bnR_s, rt_e, rt_0, rt_bz, sv_s, sv_o, ur_s, ur_e, ur_o, bz_T, bz_F, nat_eqF, Nat.reduceAdd, ↓gR_8_0 F, ↓gR_9_7 F, ↓gI_21_2 F, ↓gI_24_2 F, ↓gI_27_2 F, ↓gR_21_1 F, ↓gR_24_1 F, ↓gR_27_1 F, ↓gR_21_0 F, ↓gR_24_0 F, ↓gR_27_0 F, il_0, il_1, il_2, il_3, il_7, il_10, il_31, il_94, il_256, ↓q_X_leastSet_94, h24, sh, x1, x2, Int.natCast_add, Int.natCast_one])
        · rw [← k3]
          (rw [q_M_least_18]; simp (disch := first | decide | omega | (simp (disch := first | decide | omega) only [sv_s, sv_o, ur_s, ur_e, ur_o]; omega)) only [↓reduceIte, iv_add, iv_sub, iv_mul, iv_neg, iv_ltT, iv_ltF, iv_leT, iv_leF, iv_eqT, iv_eqF, iv_div, iv_mod, ↓bnI_s, ↓bnV_s, ↓bnJ_s, ↓bnR_s, rt_e, rt_0, rt_bz, sv_s, sv_o, ur_s, ur_e, ur_o, bz_T, bz_F, nat_eqF, Nat.reduceAdd, ↓gR_435_0 F, ↓lI_436 F, ↓lI_437 F, ↓lI_438 F, ↓lI_439 F, ↓lI_440 F, ↓lI_441 F, ↓lI_443 F, ↓lI_444 F, ↓lI_445 F, ↓lI_446 F, ↓lI_447 F, ↓lI_448 F, ↓lI_449 F, ↓lI_450 F, il_0, il_1, il_5, il_11, il_18, il_31, il_68, ↓q_M_least_68, hc, sh, m2, Int.natCast_add, Int.natCast_one])
      · have t256 : t < 256 := by omega
        have rT := sm_rg (R := C) (s := t) c (fun k k0 k1 => (hC k k0 k1).2)
        have m3 : cA m_M_sumOf [.ref 435, .int (iv t), .int (iv 0)] (em V J z) = some (.int (iv (sm C t c)), em V J z) := by
          rw [y_M_sumOf F (R := C) (Or.inl rfl) (by omega) (fun k k0 k1 => (hC k k0 (by omega)).1) t256, tn]
        have bt := (S8_at t256).1
        have pt := pcN_le t
        have mt := y_bits (h := em V J z) t256
        have fT : bst C c t (sm C t c) := Or.inr ⟨t, t1, rfl, rfl⟩
        generalize hx : sm C t c = x at *
        by_cases q1 : q < x
        · obtain ⟨b', x', k1, k2, k3⟩ := ih (s + 1) s q (by omega) fS
          refine ⟨b', x', k1, ?_, ?_⟩
          · rw [← k2]
            (rw [q_X_leastSet_7]; simp (disch := first | decide | omega | (simp (disch := first | decide | omega) only [sv_s, sv_o, ur_s, ur_e, ur_o]; omega)) only [↓reduceIte, iv_add, iv_sub, iv_mul, iv_neg, iv_ltT, iv_ltF, iv_leT, iv_leF, iv_eqT, iv_eqF, iv_div, iv_mod, ↓bnI_s, ↓bnV_s, ↓bnJ_s, ↓bnR_s, rt_e, rt_0, rt_bz, sv_s, sv_o, ur_s, ur_e, ur_o, bz_T, bz_F, nat_eqF, Nat.reduceAdd, ↓gR_8_0 F, ↓gR_9_7 F, ↓gI_21_2 F, ↓gI_24_2 F, ↓gI_27_2 F, ↓gR_21_1 F, ↓gR_24_1 F, ↓gR_27_1 F, ↓gR_21_0 F, ↓gR_24_0 F, ↓gR_27_0 F, il_0, il_1, il_2, il_3, il_7, il_10, il_31, il_94, il_256, ↓q_X_leastSet_94, h24, sh, x1, x2, Int.natCast_add, Int.natCast_one])
          · rw [← k3]
            (rw [q_M_least_18]; simp (disch := first | decide | omega | (simp (disch := first | decide | omega) only [sv_s, sv_o, ur_s, ur_e, ur_o]; omega)) only [↓reduceIte, iv_add, iv_sub, iv_mul, iv_neg, iv_ltT, iv_ltF, iv_leT, iv_leF, iv_eqT, iv_eqF, iv_div, iv_mod, ↓bnI_s, ↓bnV_s, ↓bnJ_s, ↓bnR_s, rt_e, rt_0, rt_bz, sv_s, sv_o, ur_s, ur_e, ur_o, bz_T, bz_F, nat_eqF, Nat.reduceAdd, ↓gR_435_0 F, ↓lI_436 F, ↓lI_437 F, ↓lI_438 F, ↓lI_439 F, ↓lI_440 F, ↓lI_441 F, ↓lI_443 F, ↓lI_444 F, ↓lI_445 F, ↓lI_446 F, ↓lI_447 F, ↓lI_448 F, ↓lI_449 F, ↓lI_450 F, il_0, il_1, il_5, il_11, il_18, il_31, il_68, ↓q_M_least_68, hc, sh, m1, m2, m3, Int.natCast_add, Int.natCast_one])
        · by_cases q2 : q = x
          · by_cases q3 : pcN s < pcN t
            · obtain ⟨b', x', k1, k2, k3⟩ := ih (s + 1) s q (by omega) fS
              refine ⟨b', x', k1, ?_, ?_⟩
              · rw [← k2]
                (rw [q_X_leastSet_7]; simp (disch := first | decide | omega | (simp (disch := first | decide | omega) only [sv_s, sv_o, ur_s, ur_e, ur_o]; omega)) only [↓reduceIte, iv_add, iv_sub, iv_mul, iv_neg, iv_ltT, iv_ltF, iv_leT, iv_leF, iv_eqT, iv_eqF, iv_div, iv_mod, ↓bnI_s, ↓bnV_s, ↓bnJ_s, ↓bnR_s, rt_e, rt_0, rt_bz, sv_s, sv_o, ur_s, ur_e, ur_o, bz_T, bz_F, nat_eqF, Nat.reduceAdd, ↓gR_8_0 F, ↓gR_9_7 F, ↓gI_21_2 F, ↓gI_24_2 F, ↓gI_27_2 F, ↓gR_21_1 F, ↓gR_24_1 F, ↓gR_27_1 F, ↓gR_21_0 F, ↓gR_24_0 F, ↓gR_27_0 F, il_0, il_1, il_2, il_3, il_7, il_10, il_31, il_94, il_256, ↓q_X_leastSet_94, h24, sh, x1, x2, y_bitCount, bs, bt, Int.natCast_add, Int.natCast_one])
              · rw [← k3]
                (rw [q_M_least_18]; simp (disch := first | decide | omega | (simp (disch := first | decide | omega) only [sv_s, sv_o, ur_s, ur_e, ur_o]; omega)) only [↓reduceIte, iv_add, iv_sub, iv_mul, iv_neg, iv_ltT, iv_ltF, iv_leT, iv_leF, iv_eqT, iv_eqF, iv_div, iv_mod, ↓bnI_s, ↓bnV_s, ↓bnJ_s, ↓bnR_s, rt_e, rt_0, rt_bz, sv_s, sv_o, ur_s, ur_e, ur_o, bz_T, bz_F, nat_eqF, Nat.reduceAdd, ↓gR_435_0 F, ↓lI_436 F, ↓lI_437 F, ↓lI_438 F, ↓lI_439 F, ↓lI_440 F, ↓lI_441 F, ↓lI_443 F, ↓lI_444 F, ↓lI_445 F, ↓lI_446 F, ↓lI_447 F, ↓lI_448 F, ↓lI_449 F, ↓lI_450 F, il_0, il_1, il_5, il_11, il_18, il_31, il_68, ↓q_M_least_68, hc, sh, m1, m2, m3, mb, mt, Int.natCast_add, Int.natCast_one])
            · obtain ⟨b', x', k1, k2, k3⟩ := ih (s + 1) t x (by omega) fT
              refine ⟨b', x', k1, ?_, ?_⟩
              · rw [← k2]
                (rw [q_X_leastSet_7]; simp (disch := first | decide | omega | (simp (disch := first | decide | omega) only [sv_s, sv_o, ur_s, ur_e, ur_o]; omega)) only [↓reduceIte, iv_add, iv_sub, iv_mul, iv_neg, iv_ltT, iv_ltF, iv_leT, iv_leF, iv_eqT, iv_eqF, iv_div, iv_mod, ↓bnI_s, ↓bnV_s, ↓bnJ_s, ↓bnR_s, rt_e, rt_0, rt_bz, sv_s, sv_o, ur_s, ur_e, ur_o, bz_T, bz_F, nat_eqF, Nat.reduceAdd, ↓gR_8_0 F, ↓gR_9_7 F, ↓gI_21_2 F, ↓gI_24_2 F, ↓gI_27_2 F, ↓gR_21_1 F, ↓gR_24_1 F, ↓gR_27_1 F, ↓gR_21_0 F, ↓gR_24_0 F, ↓gR_27_0 F, il_0, il_1, il_2, il_3, il_7, il_10, il_31, il_94, il_256, ↓q_X_leastSet_94, h24, sh, x1, x2, y_bitCount, bs, bt, Int.natCast_add, Int.natCast_one])
              · rw [← k3]
                (rw [q_M_least_18]; simp (disch := first | decide | omega | (simp (disch := first | decide | omega) only [sv_s, sv_o, ur_s, ur_e, ur_o]; omega)) only [↓reduceIte, iv_add, iv_sub, iv_mul, iv_neg, iv_ltT, iv_ltF, iv_leT, iv_leF, iv_eqT, iv_eqF, iv_div, iv_mod, ↓bnI_s, ↓bnV_s, ↓bnJ_s, ↓bnR_s, rt_e, rt_0, rt_bz, sv_s, sv_o, ur_s, ur_e, ur_o, bz_T, bz_F, nat_eqF, Nat.reduceAdd, ↓gR_435_0 F, ↓lI_436 F, ↓lI_437 F, ↓lI_438 F, ↓lI_439 F, ↓lI_440 F, ↓lI_441 F, ↓lI_443 F, ↓lI_444 F, ↓lI_445 F, ↓lI_446 F, ↓lI_447 F, ↓lI_448 F, ↓lI_449 F, ↓lI_450 F, il_0, il_1, il_5, il_11, il_18, il_31, il_68, ↓q_M_least_68, hc, sh, m1, m2, m3, mb, mt, Int.natCast_add, Int.natCast_one])
          · obtain ⟨b', x', k1, k2, k3⟩ := ih (s + 1) t x (by omega) fT
            refine ⟨b', x', k1, ?_, ?_⟩
            · rw [← k2]
              (rw [q_X_leastSet_7]; simp (disch := first | decide | omega | (simp (disch := first | decide | omega) only [sv_s, sv_o, ur_s, ur_e, ur_o]; omega)) only [↓reduceIte, iv_add, iv_sub, iv_mul, iv_neg, iv_ltT, iv_ltF, iv_leT, iv_leF, iv_eqT, iv_eqF, iv_div, iv_mod, ↓bnI_s, ↓bnV_s, ↓bnJ_s, ↓bnR_s, rt_e, rt_0, rt_bz, sv_s, sv_o, ur_s, ur_e, ur_o, bz_T, bz_F, nat_eqF, Nat.reduceAdd, ↓gR_8_0 F, ↓gR_9_7 F, ↓gI_21_2 F, ↓gI_24_2 F, ↓gI_27_2 F, ↓gR_21_1 F, ↓gR_24_1 F, ↓gR_27_1 F, ↓gR_21_0 F, ↓gR_24_0 F, ↓gR_27_0 F, il_0, il_1, il_2, il_3, il_7, il_10, il_31, il_94, il_256, ↓q_X_leastSet_94, h24, sh, x1, x2, Int.natCast_add, Int.natCast_one])
            · rw [← k3]
              (rw [q_M_least_18]; simp (disch := first | decide | omega | (simp (disch := first | decide | omega) only [sv_s, sv_o, ur_s, ur_e, ur_o]; omega)) only [↓reduceIte, iv_add, iv_sub, iv_mul, iv_neg, iv_ltT, iv_ltF, iv_leT, iv_leF, iv_eqT, iv_eqF, iv_div, iv_mod, ↓bnI_s, ↓bnV_s, ↓bnJ_s, ↓bnR_s, rt_e, rt_0, rt_bz, sv_s, sv_o, ur_s, ur_e, ur_o, bz_T, bz_F, nat_eqF, Nat.reduceAdd, ↓gR_435_0 F, ↓lI_436 F, ↓lI_437 F, ↓lI_438 F, ↓lI_439 F, ↓lI_440 F, ↓lI_441 F, ↓lI_443 F, ↓lI_444 F, ↓lI_445 F, ↓lI_446 F, ↓lI_447 F, ↓lI_448 F, ↓lI_449 F, ↓lI_450 F, il_0, il_1, il_5, il_11, il_18, il_31, il_68, ↓q_M_least_68, hc, sh, m1, m2, m3, Int.natCast_add, Int.natCast_one])
theorem p_least (F : Fix z) (hS : Say V 9 (V 436)) {need l : Int} (hn : (-2147483648 ≤ need ∧ need < 2147483648)) (hl : l = 0 ∨ l = 1) : Pq V J z (fun h => cA m_X_least [.ref 8, .int (iv need), .int (iv l)] h) (fun h => cA m_M_least [.ref 435, .int (iv need), .int (iv l)] h) := by
  obtain ⟨g1, g2, g3⟩ := hS
  have g1 : V 24 2 = V 436 5 := g1
  by_cases h1 : 0 ≤ need ∧ need ≤ 999
  · obtain ⟨c, hc⟩ := Int.eq_ofNat_of_zero_le g2.1
    have p256 : 2 ^ c ≤ 2 ^ 8 := Nat.pow_le_pow_right (by omega) (by omega)
    have p256 : 2 ^ c ≤ 256 := p256
    have hC : ∀ k : Int, 0 ≤ k → k < c → V 436 (133 + 2 * k + 0) = V 25 k ∧ 0 ≤ V 25 k ∧ V 25 k ≤ 99 := fun k k0 k1 => by
      obtain ⟨a1, a2, a3, a4⟩ := g3 k k0 (by omega)
      have a1 : V 25 k = V 436 (133 + 2 * k) := a1
      rw [Int.add_zero, a1]
      exact ⟨rfl, a3⟩
    have hD : ∀ k : Int, 0 ≤ k → k < c → V 436 (133 + 2 * k + 1) = V 26 k ∧ 0 ≤ V 26 k ∧ V 26 k ≤ 99 := fun k k0 k1 => by
      obtain ⟨a1, a2, a3, a4⟩ := g3 k k0 (by omega)
      have a2 : V 26 k = V 436 (134 + 2 * k) := a2
      rw [show 133 + 2 * k + 1 = 134 + 2 * k by omega, a2]
      exact ⟨rfl, by omega⟩
    obtain ⟨b, x, hb, e1, e2⟩ := y_least_l (J := J) F (C := V 25) (D := V 26) (c := c) (l := l) h1 hc (by omega) (by omega) rfl rfl hC hD (2 ^ c) 0 (-1) 0 (by omega) (Or.inl ⟨rfl, rfl⟩)
    have e1 : cA m_X_leastSet [.ref 8, .int (iv need)] (em V J z) = some (.int (iv b), em V J z) := by
      rw [← e1, q_X_leastSet, gd_8 F, il_0, il_1, iv_neg]
      rfl
    have e2 : cA m_M_least [.ref 435, .int (iv need), .int (iv l)] (em V J z) = rX m_M_least m_M_least 18 [.ref 435, .int (iv need), .int (iv l), .int (iv b), .int (iv ((2 ^ c : Nat) : Int)), dd] [] (em V J z) := by
      rw [← e2]
      simp (disch := first | decide | omega | (simp (disch := first | decide | omega) only [sv_s, sv_o, ur_s, ur_e, ur_o]; omega)) only [↓reduceIte, iv_add, iv_sub, iv_mul, iv_neg, iv_ltT, iv_ltF, iv_leT, iv_leF, iv_eqT, iv_eqF, iv_div, iv_mod, ↓bnI_s, ↓bnV_s, ↓bnJ_s, ↓bnR_s, rt_e, rt_0, rt_bz, sv_s, sv_o, ur_s, ur_e, ur_o, bz_T, bz_F, nat_eqF, Nat.reduceAdd, ↓q_M_least, ↓gd_435 F, il_0, il_1, il_18, il_27, il_999, y_isIn]
      rfl
    have sh : iv 1 <<< (iv (c : Int) &&& iv 31) = iv ((2 ^ c : Nat) : Int) := shl8 (by omega)
    rcases hb with ⟨rfl, rfl⟩ | ⟨t, t1, rfl, rfl⟩
    · refine ⟨-1, V, J, V, J, ?_, rfl, ?_, rfl⟩
      · rcases hl with rfl | rfl
        · simp (disch := first | decide | omega | (simp (disch := first | decide | omega) only [sv_s, sv_o, ur_s, ur_e, ur_o]; omega)) only [↓reduceIte, iv_add, iv_sub, iv_mul, iv_neg, iv_ltT, iv_ltF, iv_leT, iv_leF, iv_eqT, iv_eqF, iv_div, iv_mod, ↓bnI_s, ↓bnV_s, ↓bnJ_s, ↓bnR_s, rt_e, rt_0, rt_bz, sv_s, sv_o, ur_s, ur_e, ur_o, bz_T, bz_F, nat_eqF, Nat.reduceAdd, ↓q_X_least, ↓gR_8_0 F, ↓gR_9_7 F, ↓gR_21_0 F, ↓gR_24_0 F, ↓gR_27_0 F, ↓gd_8 F, il_0, il_1, il_2, il_3, il_7, il_10, il_26, il_999, y_within, e1]
        · simp (disch := first | decide | omega | (simp (disch := first | decide | omega) only [sv_s, sv_o, ur_s, ur_e, ur_o]; omega)) only [↓reduceIte, iv_add, iv_sub, iv_mul, iv_neg, iv_ltT, iv_ltF, iv_leT, iv_leF, iv_eqT, iv_eqF, iv_div, iv_mod, ↓bnI_s, ↓bnV_s, ↓bnJ_s, ↓bnR_s, rt_e, rt_0, rt_bz, sv_s, sv_o, ur_s, ur_e, ur_o, bz_T, bz_F, nat_eqF, Nat.reduceAdd, ↓q_X_least, ↓gR_8_0 F, ↓gR_9_7 F, ↓gR_21_0 F, ↓gR_24_0 F, ↓gR_27_0 F, ↓gd_8 F, il_0, il_1, il_2, il_3, il_7, il_10, il_26, il_999, y_within, e1]
      · show cA _ _ _ = _
        rw [e2]
        generalize 2 ^ c = N at *
        (rw [q_M_least_18]; simp (disch := first | decide | omega | (simp (disch := first | decide | omega) only [sv_s, sv_o, ur_s, ur_e, ur_o]; omega)) only [↓reduceIte, iv_add, iv_sub, iv_mul, iv_neg, iv_ltT, iv_ltF, iv_leT, iv_leF, iv_eqT, iv_eqF, iv_div, iv_mod, ↓bnI_s, ↓bnV_s, ↓bnJ_s, ↓bnR_s, rt_e, rt_0, rt_bz, sv_s, sv_o, ur_s, ur_e, ur_o, bz_T, bz_F, nat_eqF, Nat.reduceAdd, ↓gR_435_0 F, ↓lI_436 F, ↓lI_437 F, ↓lI_438 F, ↓lI_439 F, ↓lI_440 F, ↓lI_441 F, ↓lI_443 F, ↓lI_444 F, ↓lI_445 F, ↓lI_446 F, ↓lI_447 F, ↓lI_448 F, ↓lI_449 F, ↓lI_450 F, il_0, il_1, il_5, il_11, il_18, il_31, il_68, hc, sh])
    · have x1 : cA m_X_sumOf [.ref 25, .int (iv t)] (em V J z) = some (.int (iv (sm (V 25) t c)), em V J z) := by
        rw [y_X_sumOf (s_25 F) (by omega), show 8 = c + (8 - c) by omega, sm_hi (by omega)]
      have m3 : cA m_M_sumOf [.ref 435, .int (iv t), .int (iv 0)] (em V J z) = some (.int (iv (sm (V 25) t c)), em V J z) := by
        rw [y_M_sumOf F (R := V 25) (Or.inl rfl) (by omega) (fun k k0 k1 => (hC k k0 (by omega)).1) (by omega), show (V 436 5).toNat = c by omega]
      rcases hl with rfl | rfl
      · refine ⟨t, V, J, V, J, ?_, rfl, ?_, rfl⟩
        · simp (disch := first | decide | omega | (simp (disch := first | decide | omega) only [sv_s, sv_o, ur_s, ur_e, ur_o]; omega)) only [↓reduceIte, iv_add, iv_sub, iv_mul, iv_neg, iv_ltT, iv_ltF, iv_leT, iv_leF, iv_eqT, iv_eqF, iv_div, iv_mod, ↓bnI_s, ↓bnV_s, ↓bnJ_s, ↓bnR_s, rt_e, rt_0, rt_bz, sv_s, sv_o, ur_s, ur_e, ur_o, bz_T, bz_F, nat_eqF, Nat.reduceAdd, ↓q_X_least, ↓gR_8_0 F, ↓gR_9_7 F, ↓gR_21_0 F, ↓gR_24_0 F, ↓gR_27_0 F, ↓gd_8 F, il_0, il_1, il_2, il_3, il_7, il_10, il_26, il_999, y_within, e1]
        · show cA _ _ _ = _
          rw [e2]
          generalize 2 ^ c = N at *
          (rw [q_M_least_18]; simp (disch := first | decide | omega | (simp (disch := first | decide | omega) only [sv_s, sv_o, ur_s, ur_e, ur_o]; omega)) only [↓reduceIte, iv_add, iv_sub, iv_mul, iv_neg, iv_ltT, iv_ltF, iv_leT, iv_leF, iv_eqT, iv_eqF, iv_div, iv_mod, ↓bnI_s, ↓bnV_s, ↓bnJ_s, ↓bnR_s, rt_e, rt_0, rt_bz, sv_s, sv_o, ur_s, ur_e, ur_o, bz_T, bz_F, nat_eqF, Nat.reduceAdd, ↓gR_435_0 F, ↓lI_436 F, ↓lI_437 F, ↓lI_438 F, ↓lI_439 F, ↓lI_440 F, ↓lI_441 F, ↓lI_443 F, ↓lI_444 F, ↓lI_445 F, ↓lI_446 F, ↓lI_447 F, ↓lI_448 F, ↓lI_449 F, ↓lI_450 F, il_0, il_1, il_5, il_11, il_18, il_31, il_68, hc, sh])
      · refine ⟨sm (V 25) t c, V, J, V, J, ?_, rfl, ?_, rfl⟩
        · simp (disch := first | decide | omega | (simp (disch := first | decide | omega) only [sv_s, sv_o, ur_s, ur_e, ur_o]; omega)) only [↓reduceIte, iv_add, iv_sub, iv_mul, iv_neg, iv_ltT, iv_ltF, iv_leT, iv_leF, iv_eqT, iv_eqF, iv_div, iv_mod, ↓bnI_s, ↓bnV_s, ↓bnJ_s, ↓bnR_s, rt_e, rt_0, rt_bz, sv_s, sv_o, ur_s, ur_e, ur_o, bz_T, bz_F, nat_eqF, Nat.reduceAdd, ↓q_X_least, ↓gR_8_0 F, ↓gR_9_7 F, ↓gR_21_0 F, ↓gR_24_0 F, ↓gR_27_0 F, ↓gd_8 F, il_0, il_1, il_2, il_3, il_7, il_10, il_26, il_999, y_within, e1, x1]
        · show cA _ _ _ = _
          rw [e2]
          generalize 2 ^ c = N at *
          (rw [q_M_least_18]; simp (disch := first | decide | omega | (simp (disch := first | decide | omega) only [sv_s, sv_o, ur_s, ur_e, ur_o]; omega)) only [↓reduceIte, iv_add, iv_sub, iv_mul, iv_neg, iv_ltT, iv_ltF, iv_leT, iv_leF, iv_eqT, iv_eqF, iv_div, iv_mod, ↓bnI_s, ↓bnV_s, ↓bnJ_s, ↓bnR_s, rt_e, rt_0, rt_bz, sv_s, sv_o, ur_s, ur_e, ur_o, bz_T, bz_F, nat_eqF, Nat.reduceAdd, ↓gR_435_0 F, ↓lI_436 F, ↓lI_437 F, ↓lI_438 F, ↓lI_439 F, ↓lI_440 F, ↓lI_441 F, ↓lI_443 F, ↓lI_444 F, ↓lI_445 F, ↓lI_446 F, ↓lI_447 F, ↓lI_448 F, ↓lI_449 F, ↓lI_450 F, il_0, il_1, il_5, il_11, il_18, il_31, il_68, hc, sh, m3])
  · exact ⟨-1, V, J, V, J, (by simp (disch := first | decide | omega | (simp (disch := first | decide | omega) only [sv_s, sv_o, ur_s, ur_e, ur_o]; omega)) only [↓reduceIte, iv_add, iv_sub, iv_mul, iv_neg, iv_ltT, iv_ltF, iv_leT, iv_leF, iv_eqT, iv_eqF, iv_div, iv_mod, ↓bnI_s, ↓bnV_s, ↓bnJ_s, ↓bnR_s, rt_e, rt_0, rt_bz, sv_s, sv_o, ur_s, ur_e, ur_o, bz_T, bz_F, nat_eqF, Nat.reduceAdd, ↓q_X_least, ↓gR_8_0 F, ↓gR_9_7 F, ↓gR_21_0 F, ↓gR_24_0 F, ↓gR_27_0 F, ↓gd_8 F, il_0, il_1, il_2, il_3, il_7, il_10, il_26, il_999, y_within]), rfl, (by simp (disch := first | decide | omega | (simp (disch := first | decide | omega) only [sv_s, sv_o, ur_s, ur_e, ur_o]; omega)) only [↓reduceIte, iv_add, iv_sub, iv_mul, iv_neg, iv_ltT, iv_ltF, iv_leT, iv_leF, iv_eqT, iv_eqF, iv_div, iv_mod, ↓bnI_s, ↓bnV_s, ↓bnJ_s, ↓bnR_s, rt_e, rt_0, rt_bz, sv_s, sv_o, ur_s, ur_e, ur_o, bz_T, bz_F, nat_eqF, Nat.reduceAdd, ↓q_M_least, ↓gd_435 F, il_0, il_1, il_18, il_27, il_999, y_isIn]), rfl⟩
end
