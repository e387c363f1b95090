/-! A GAME of bites: shapes by tens and by sixes, checked once -/
def LOS : List Nat := [10000, 21000, 22100, 22210, 22221, 31100, 32000, 33110, 33211, 33322, 41110, 42111, 42200, 43000, 44222, 44311, 51111, 52110, 53200, 53320, 54000, 55220, 55300]
def lose (s : Nat) : Bool := LOS.any fun q => Nat.beq q s
def e10 (r : Nat) : Nat := if r = 0 then 10000 else if r = 1 then 1000 else if r = 2 then 100 else if r = 3 then 10 else 1
def e06 (r : Nat) : Nat := if r = 0 then 1296 else if r = 1 then 216 else if r = 2 then 36 else if r = 3 then 6 else 1
def w10 (s r : Nat) : Nat := s / e10 r % 10
def w06 (v r : Nat) : Nat := v / e06 r % 6
def bx (w : Nat → Nat) (r c k : Nat) : Nat := if r ≤ k ∧ c < w k then c else w k
def b10 (s r c : Nat) : Nat := ((((0 * 10 + bx (w10 s) r c 0) * 10 + bx (w10 s) r c 1) * 10 + bx (w10 s) r c 2) * 10 + bx (w10 s) r c 3) * 10 + bx (w10 s) r c 4
def b06 (v r c : Nat) : Nat := 6 * (6 * (6 * (6 * (6 * 0 + bx (w06 v) r c 0) + bx (w06 v) r c 1) + bx (w06 v) r c 2) + bx (w06 v) r c 3) + bx (w06 v) r c 4
def T10n (v : Nat) : Nat := (((w06 v 0 * 10 + w06 v 1) * 10 + w06 v 2) * 10 + w06 v 3) * 10 + w06 v 4
def vd (v : Nat) : Bool := Nat.ble (w06 v 1) (w06 v 0) && Nat.ble (w06 v 2) (w06 v 1) && Nat.ble (w06 v 3) (w06 v 2) && Nat.ble (w06 v 4) (w06 v 3)
def chkG1 (v : Nat) : Bool := ((List.range 5).all fun r => Nat.beq (w10 (T10n v) r) (w06 v r)) && ((List.range 5).all fun r => (List.range (w06 v r)).all fun c => Nat.blt (b06 v r c) v && vd (b06 v r c) && Nat.beq (b10 (T10n v) r c) (T10n (b06 v r c))) && (Nat.beq v 0 || (((List.range 5).any fun r => (List.range (w06 v r)).any fun c => lose (T10n (b06 v r c))) == !(lose (T10n v))))
def chkG : Bool := (List.range 7776).all fun v => !(vd v) || chkG1 v
set_option maxRecDepth 100000 in
theorem chk_G : chkG = true := by decide +kernel
theorem G_at {v : Nat} (h : v < 7776) (hv : vd v = true) : (∀ r, r < 5 → w10 (T10n v) r = w06 v r) ∧ (∀ r, r < 5 → ∀ c, c < w06 v r → b06 v r c < v ∧ vd (b06 v r c) = true ∧ b10 (T10n v) r c = T10n (b06 v r c)) ∧ (v ≠ 0 → ((∃ r, r < 5 ∧ ∃ c, c < w06 v r ∧ lose (T10n (b06 v r c)) = true) ↔ lose (T10n v) = false)) := by
  have q := List.all_eq_true.mp chk_G v (mem_rg h)
  rw [hv] at q
  have q : chkG1 v = true := q
  unfold chkG1 at q
  simp only [Bool.and_eq_true, Bool.or_eq_true] at q
  obtain ⟨⟨q1, q2⟩, q3⟩ := q
  refine ⟨fun r hr => Nat.eq_of_beq_eq_true (List.all_eq_true.mp q1 r (mem_rg hr)), fun r hr c hc => ?_, fun h0 => ?_⟩
  · have t := List.all_eq_true.mp (List.all_eq_true.mp q2 r (mem_rg hr)) c (mem_rg hc)
    simp only [Bool.and_eq_true] at t
    exact ⟨Nat.blt_eq.mp t.1.1, t.1.2, Nat.eq_of_beq_eq_true t.2⟩
  · rcases q3 with q3 | q3
    · exact absurd (Nat.eq_of_beq_eq_true q3) h0
    · have q3 := eq_of_beq q3
      constructor
      · rintro ⟨r, hr, c, hc, hl⟩
        have : ((List.range 5).any fun r => (List.range (w06 v r)).any fun c => lose (T10n (b06 v r c))) = true := List.any_eq_true.mpr ⟨r, mem_rg hr, List.any_eq_true.mpr ⟨c, mem_rg hc, hl⟩⟩
        rw [this] at q3
        cases hh : lose (T10n v) with
        | false => rfl
        | true => rw [hh] at q3; cases q3
      · intro hl
        rw [hl] at q3
        obtain ⟨r, hr, h2⟩ := List.any_eq_true.mp q3
        obtain ⟨c, hc, h3⟩ := List.any_eq_true.mp h2
        exact ⟨r, List.mem_range.mp hr, c, List.mem_range.mp hc, h3⟩
theorem w06_lt (v r : Nat) : w06 v r < 6 := Nat.mod_lt _ (by omega)
theorem w10_lt (s r : Nat) : w10 s r < 10 := Nat.mod_lt _ (by omega)
theorem bx_lt (w : Nat → Nat) (n r c k : Nat) (h : ∀ k, w k < n) : bx w r c k < n := by
  unfold bx
  have := h k
  split <;> omega
theorem T10_lt {v : Nat} : T10n v ≤ 55555 := by
  have a := w06_lt v 0
  have b := w06_lt v 1
  have c := w06_lt v 2
  have d := w06_lt v 3
  have e := w06_lt v 4
  unfold T10n; omega
/-- the first bite by which the other one loses -/
def findc (P : Nat → Bool) : Nat → Nat → Int
  | 0, _ => -1
  | m + 1, c => if P c = true then c else findc P m (c + 1)
def findr (P : Nat → Nat → Bool) (w : Nat → Nat) : Nat → Nat → Int × Int
  | 0, _ => (-1, -1)
  | m + 1, r => if findc (P r) (w r) 0 = -1 then findr P w m (r + 1) else ((r : Int), findc (P r) (w r) 0)
theorem findc_ge (P : Nat → Bool) : ∀ m c, (findc P m c = -1 ∧ ∀ d, c ≤ d → d < c + m → P d = false) ∨ ((c : Int) ≤ findc P m c ∧ findc P m c < ((c + m : Nat) : Int) ∧ P (findc P m c).toNat = true) := by
  intro m
  induction m with
  | zero => intro c; exact Or.inl ⟨rfl, fun d h1 h2 => absurd h2 (by omega)⟩
  | succ m ih =>
    intro c
    show ((if P c = true then (c : Int) else findc P m (c + 1)) = -1 ∧ _) ∨ ((c : Int) ≤ (if P c = true then (c : Int) else findc P m (c + 1)) ∧ (if P c = true then (c : Int) else findc P m (c + 1)) < ((c + (m + 1) : Nat) : Int) ∧ P (if P c = true then (c : Int) else findc P m (c + 1)).toNat = true)
    by_cases q : P c = true
    · rw [if_pos q]
      exact Or.inr ⟨Int.le_refl _, by omega, by rw [Int.toNat_natCast]; exact q⟩
    · rw [if_neg q]
      rcases ih (c + 1) with ⟨a, b⟩ | ⟨a, b, d⟩
      · refine Or.inl ⟨a, fun d h1 h2 => ?_⟩
        by_cases e : d = c
        · rw [e]; cases hh : P c with
          | false => rfl
          | true => exact absurd hh q
        · exact b d (by omega) (by omega)
      · exact Or.inr ⟨by omega, by omega, d⟩
theorem findc_c {P Q : Nat → Bool} : ∀ m c, (∀ d, c ≤ d → d < c + m → P d = Q d) → findc P m c = findc Q m c := by
  intro m
  induction m with
  | zero => intro c _; rfl
  | succ m ih =>
    intro c h
    show (if P c = true then (c : Int) else findc P m (c + 1)) = (if Q c = true then (c : Int) else findc Q m (c + 1))
    rw [h c (by omega) (by omega), ih (c + 1) (fun d h1 h2 => h d (by omega) (by omega))]
theorem findr_c {P Q : Nat → Nat → Bool} {w u : Nat → Nat} : ∀ m r, (∀ k, r ≤ k → k < r + m → w k = u k ∧ ∀ c, c < w k → P k c = Q k c) → findr P w m r = findr Q u m r := by
  intro m
  induction m with
  | zero => intro r _; rfl
  | succ m ih =>
    intro r h
    have a := h r (by omega) (by omega)
    have e : findc (P r) (w r) 0 = findc (Q r) (u r) 0 := by rw [findc_c (w r) 0 (fun d h1 h2 => a.2 d (by omega)), a.1]
    show (if findc (P r) (w r) 0 = -1 then findr P w m (r + 1) else ((r : Int), findc (P r) (w r) 0)) = (if findc (Q r) (u r) 0 = -1 then findr Q u m (r + 1) else ((r : Int), findc (Q r) (u r) 0))
    rw [e, ih (r + 1) (fun k h1 h2 => h k (by omega) (by omega))]
theorem findr_spec (P : Nat → Nat → Bool) (w : Nat → Nat) : ∀ m r, (findr P w m r = (-1, -1) ∧ ∀ k, r ≤ k → k < r + m → ∀ c, c < w k → P k c = false) ∨ (∃ k c : Nat, r ≤ k ∧ k < r + m ∧ c < w k ∧ P k c = true ∧ findr P w m r = ((k : Int), (c : Int))) := by
  intro m
  induction m with
  | zero => intro r; exact Or.inl ⟨rfl, fun k h1 h2 => absurd h2 (by omega)⟩
  | succ m ih =>
    intro r
    have un : findr P w (m + 1) r = if findc (P r) (w r) 0 = -1 then findr P w m (r + 1) else ((r : Int), findc (P r) (w r) 0) := rfl
    rcases findc_ge (P r) (w r) 0 with ⟨a, b⟩ | ⟨a, b, d⟩
    · rw [un, if_pos a]
      rcases ih (r + 1) with ⟨x, y⟩ | ⟨k, c, x1, x2, x3, x4, x5⟩
      · refine Or.inl ⟨x, fun k h1 h2 c hc => ?_⟩
        by_cases e : k = r
        · rw [e] at hc ⊢; exact b c (by omega) (by omega)
        · exact y k (by omega) (by omega) c hc
      · exact Or.inr ⟨k, c, by omega, by omega, x3, x4, x5⟩
    · rw [un, if_neg (by omega)]
      refine Or.inr ⟨r, (findc (P r) (w r) 0).toNat, by omega, by omega, by omega, d, ?_⟩
      rw [Int.toNat_of_nonneg (by omega)]
section
variable {V J : Vm} {z : Zz}
theorem y_widthOf {s r : Nat} {h : Mem} (hs : s < 1000000) (hr : r < 5) : cA m_X_widthOf [.int (iv s), .int (iv r)] h = some (.int (iv (w10 s r)), h) := by
  rcases (show r = 0 ∨ r = 1 ∨ r = 2 ∨ r = 3 ∨ r = 4 by omega) with rfl | rfl | rfl | rfl | rfl
  · simp (disch := first | decide | omega | (simp (disch := first | decide | omega) only [sv_s, sv_o, ur_s, ur_e, ur_o]; omega)) only [↓reduceIte, iv_add, iv_sub, iv_mul, iv_neg, iv_ltT, iv_ltF, iv_leT, iv_leF, iv_eqT, iv_eqF, iv_div, iv_mod, ↓bnI_s, ↓bnV_s, ↓bnJ_s, ↓bnR_s, rt_e, rt_0, rt_bz, sv_s, sv_o, ur_s, ur_e, ur_o, bz_T, bz_F, nat_eqF, Nat.reduceAdd, ↓q_X_widthOf, ↓q_X_widthOf_4, il_0, il_1, il_4, il_10, Int.cast_ofNat_Int]
    exact si (by show _ = ((s / 10000 % 10 : Nat) : Int); omega)
  · simp (disch := first | decide | omega | (simp (disch := first | decide | omega) only [sv_s, sv_o, ur_s, ur_e, ur_o]; omega)) only [↓reduceIte, iv_add, iv_sub, iv_mul, iv_neg, iv_ltT, iv_ltF, iv_leT, iv_leF, iv_eqT, iv_eqF, iv_div, iv_mod, ↓bnI_s, ↓bnV_s, ↓bnJ_s, ↓bnR_s, rt_e, rt_0, rt_bz, sv_s, sv_o, ur_s, ur_e, ur_o, bz_T, bz_F, nat_eqF, Nat.reduceAdd, ↓q_X_widthOf, ↓q_X_widthOf_4, il_0, il_1, il_4, il_10, Int.cast_ofNat_Int]
    exact si (by show _ = ((s / 1000 % 10 : Nat) : Int); omega)
  · simp (disch := first | decide | omega | (simp (disch := first | decide | omega) only [sv_s, sv_o, ur_s, ur_e, ur_o]; omega)) only [↓reduceIte, iv_add, iv_sub, iv_mul, iv_neg, iv_ltT, iv_ltF, iv_leT, iv_leF, iv_eqT, iv_eqF, iv_div, iv_mod, ↓bnI_s, ↓bnV_s, ↓bnJ_s, ↓bnR_s, rt_e, rt_0, rt_bz, sv_s, sv_o, ur_s, ur_e, ur_o, bz_T, bz_F, nat_eqF, Nat.reduceAdd, ↓q_X_widthOf, ↓q_X_widthOf_4, il_0, il_1, il_4, il_10, Int.cast_ofNat_Int]
    exact si (by show _ = ((s / 100 % 10 : Nat) : Int); omega)
  · simp (disch := first | decide | omega | (simp (disch := first | decide | omega) only [sv_s, sv_o, ur_s, ur_e, ur_o]; omega)) only [↓reduceIte, iv_add, iv_sub, iv_mul, iv_neg, iv_ltT, iv_ltF, iv_leT, iv_leF, iv_eqT, iv_eqF, iv_div, iv_mod, ↓bnI_s, ↓bnV_s, ↓bnJ_s, ↓bnR_s, rt_e, rt_0, rt_bz, sv_s, sv_o, ur_s, ur_e, ur_o, bz_T, bz_F, nat_eqF, Nat.reduceAdd, ↓q_X_widthOf, ↓q_X_widthOf_4, il_0, il_1, il_4, il_10, Int.cast_ofNat_Int]
    exact si (by show _ = ((s / 10 % 10 : Nat) : Int); omega)
  · simp (disch := first | decide | omega | (simp (disch := first | decide | omega) only [sv_s, sv_o, ur_s, ur_e, ur_o]; omega)) only [↓reduceIte, iv_add, iv_sub, iv_mul, iv_neg, iv_ltT, iv_ltF, iv_leT, iv_leF, iv_eqT, iv_eqF, iv_div, iv_mod, ↓bnI_s, ↓bnV_s, ↓bnJ_s, ↓bnR_s, rt_e, rt_0, rt_bz, sv_s, sv_o, ur_s, ur_e, ur_o, bz_T, bz_F, nat_eqF, Nat.reduceAdd, ↓q_X_widthOf, ↓q_X_widthOf_4, il_0, il_1, il_4, il_10, Int.cast_ofNat_Int]
    exact si (by show _ = ((s / 1 % 10 : Nat) : Int); omega)
theorem y_rowOf {s r : Nat} {h : Mem} (hs : s < 1000000) (hr : r < 5) : cA m_M_rowOf [.int (iv s), .int (iv r)] h = some (.int (iv (w06 s r)), h) := by
  rcases (show r = 0 ∨ r = 1 ∨ r = 2 ∨ r = 3 ∨ r = 4 by omega) with rfl | rfl | rfl | rfl | rfl
  · simp (disch := first | decide | omega | (simp (disch := first | decide | omega) only [sv_s, sv_o, ur_s, ur_e, ur_o]; omega)) only [↓reduceIte, iv_add, iv_sub, iv_mul, iv_neg, iv_ltT, iv_ltF, iv_leT, iv_leF, iv_eqT, iv_eqF, iv_div, iv_mod, ↓bnI_s, ↓bnV_s, ↓bnJ_s, ↓bnR_s, rt_e, rt_0, rt_bz, sv_s, sv_o, ur_s, ur_e, ur_o, bz_T, bz_F, nat_eqF, Nat.reduceAdd, ↓q_M_rowOf, ↓q_M_rowOf_4, il_0, il_1, il_4, il_6, Int.cast_ofNat_Int]
    exact si (by show _ = ((s / 1296 % 6 : Nat) : Int); omega)
  · simp (disch := first | decide | omega | (simp (disch := first | decide | omega) only [sv_s, sv_o, ur_s, ur_e, ur_o]; omega)) only [↓reduceIte, iv_add, iv_sub, iv_mul, iv_neg, iv_ltT, iv_ltF, iv_leT, iv_leF, iv_eqT, iv_eqF, iv_div, iv_mod, ↓bnI_s, ↓bnV_s, ↓bnJ_s, ↓bnR_s, rt_e, rt_0, rt_bz, sv_s, sv_o, ur_s, ur_e, ur_o, bz_T, bz_F, nat_eqF, Nat.reduceAdd, ↓q_M_rowOf, ↓q_M_rowOf_4, il_0, il_1, il_4, il_6, Int.cast_ofNat_Int]
    exact si (by show _ = ((s / 216 % 6 : Nat) : Int); omega)
  · simp (disch := first | decide | omega | (simp (disch := first | decide | omega) only [sv_s, sv_o, ur_s, ur_e, ur_o]; omega)) only [↓reduceIte, iv_add, iv_sub, iv_mul, iv_neg, iv_ltT, iv_ltF, iv_leT, iv_leF, iv_eqT, iv_eqF, iv_div, iv_mod, ↓bnI_s, ↓bnV_s, ↓bnJ_s, ↓bnR_s, rt_e, rt_0, rt_bz, sv_s, sv_o, ur_s, ur_e, ur_o, bz_T, bz_F, nat_eqF, Nat.reduceAdd, ↓q_M_rowOf, ↓q_M_rowOf_4, il_0, il_1, il_4, il_6, Int.cast_ofNat_Int]
    exact si (by show _ = ((s / 36 % 6 : Nat) : Int); omega)
  · simp (disch := first | decide | omega | (simp (disch := first | decide | omega) only [sv_s, sv_o, ur_s, ur_e, ur_o]; omega)) only [↓reduceIte, iv_add, iv_sub, iv_mul, iv_neg, iv_ltT, iv_ltF, iv_leT, iv_leF, iv_eqT, iv_eqF, iv_div, iv_mod, ↓bnI_s, ↓bnV_s, ↓bnJ_s, ↓bnR_s, rt_e, rt_0, rt_bz, sv_s, sv_o, ur_s, ur_e, ur_o, bz_T, bz_F, nat_eqF, Nat.reduceAdd, ↓q_M_rowOf, ↓q_M_rowOf_4, il_0, il_1, il_4, il_6, Int.cast_ofNat_Int]
    exact si (by show _ = ((s / 6 % 6 : Nat) : Int); omega)
  · simp (disch := first | decide | omega | (simp (disch := first | decide | omega) only [sv_s, sv_o, ur_s, ur_e, ur_o]; omega)) only [↓reduceIte, iv_add, iv_sub, iv_mul, iv_neg, iv_ltT, iv_ltF, iv_leT, iv_leF, iv_eqT, iv_eqF, iv_div, iv_mod, ↓bnI_s, ↓bnV_s, ↓bnJ_s, ↓bnR_s, rt_e, rt_0, rt_bz, sv_s, sv_o, ur_s, ur_e, ur_o, bz_T, bz_F, nat_eqF, Nat.reduceAdd, ↓q_M_rowOf, ↓q_M_rowOf_4, il_0, il_1, il_4, il_6, Int.cast_ofNat_Int]
    exact si (by show _ = ((s / 1 % 6 : Nat) : Int); omega)
theorem y_bit10_s {s r c x k : Nat} {h : Mem} (hs : s < 1000000) (hr : r < 5) (hc : c < 10) (hk : k < 5) : rX m_X_bitten m_X_bitten 5 [.int (iv s), .int (iv r), .int (iv c), .int (iv x), .int (iv k), dd] [] h = rX m_X_bitten m_X_bitten 5 [.int (iv s), .int (iv r), .int (iv c), .int (iv ((x * 10 + bx (w10 s) r c k : Nat) : Int)), .int (iv ((k + 1 : Nat) : Int)), dd] [] h := by
  have w := w10_lt s k
  have e := y_widthOf (h := h) hs hk
  unfold bx
  by_cases q1 : r ≤ k
  · by_cases q2 : c < w10 s k
    · rw [if_pos ⟨q1, q2⟩]
      (rw [q_X_bitten_5]; simp (disch := first | decide | omega | (simp (disch := first | decide | omega) only [sv_s, sv_o, ur_s, ur_e, ur_o]; omega)) only [↓reduceIte, iv_add, iv_sub, iv_mul, iv_neg, iv_ltT, iv_ltF, iv_leT, iv_leF, iv_eqT, iv_eqF, iv_div, iv_mod, ↓bnI_s, ↓bnV_s, ↓bnJ_s, ↓bnR_s, rt_e, rt_0, rt_bz, sv_s, sv_o, ur_s, ur_e, ur_o, bz_T, bz_F, nat_eqF, Nat.reduceAdd, il_0, il_1, il_5, il_10, e, Int.natCast_add, Int.natCast_one, Int.natCast_mul, Int.cast_ofNat_Int])
    · rw [if_neg (fun q => q2 q.2)]
      (rw [q_X_bitten_5]; simp (disch := first | decide | omega | (simp (disch := first | decide | omega) only [sv_s, sv_o, ur_s, ur_e, ur_o]; omega)) only [↓reduceIte, iv_add, iv_sub, iv_mul, iv_neg, iv_ltT, iv_ltF, iv_leT, iv_leF, iv_eqT, iv_eqF, iv_div, iv_mod, ↓bnI_s, ↓bnV_s, ↓bnJ_s, ↓bnR_s, rt_e, rt_0, rt_bz, sv_s, sv_o, ur_s, ur_e, ur_o, bz_T, bz_F, nat_eqF, Nat.reduceAdd, il_0, il_1, il_5, il_10, e, Int.natCast_add, Int.natCast_one, Int.natCast_mul, Int.cast_ofNat_Int])
  · rw [if_neg (fun q => q1 q.1)]
    (rw [q_X_bitten_5]; simp (disch := first | decide | omega | (simp (disch := first | decide | omega) only [sv_s, sv_o, ur_s, ur_e, ur_o]; omega)) only [↓reduceIte, iv_add, iv_sub, iv_mul, iv_neg, iv_ltT, iv_ltF, iv_leT, iv_leF, iv_eqT, iv_eqF, iv_div, iv_mod, ↓bnI_s, ↓bnV_s, ↓bnJ_s, ↓bnR_s, rt_e, rt_0, rt_bz, sv_s, sv_o, ur_s, ur_e, ur_o, bz_T, bz_F, nat_eqF, Nat.reduceAdd, il_0, il_1, il_5, il_10, e, Int.natCast_add, Int.natCast_one, Int.natCast_mul, Int.cast_ofNat_Int])
theorem y_bit10 {s r c : Nat} {h : Mem} (hs : s < 1000000) (hr : r < 5) (hc : c < 10) : cA m_X_bitten [.int (iv s), .int (iv r), .int (iv c)] h = some (.int (iv (b10 s r c)), h) := by
  have en : ∀ x : Nat, rX m_X_bitten m_X_bitten 5 [.int (iv s), .int (iv r), .int (iv c), .int (iv x), .int (iv ((5 : Nat) : Int)), dd] [] h = some (.int (iv x), h) := fun x => by
    (rw [q_X_bitten_5]; simp (disch := first | decide | omega | (simp (disch := first | decide | omega) only [sv_s, sv_o, ur_s, ur_e, ur_o]; omega)) only [↓reduceIte, iv_add, iv_sub, iv_mul, iv_neg, iv_ltT, iv_ltF, iv_leT, iv_leF, iv_eqT, iv_eqF, iv_div, iv_mod, ↓bnI_s, ↓bnV_s, ↓bnJ_s, ↓bnR_s, rt_e, rt_0, rt_bz, sv_s, sv_o, ur_s, ur_e, ur_o, bz_T, bz_F, nat_eqF, Nat.reduceAdd, il_0, il_1, il_5, il_10])
  rw [q_X_bitten, il_0]
  exact (y_bit10_s (x := 0) (k := 0) hs hr hc (by omega)).trans ((y_bit10_s (k := 1) hs hr hc (by omega)).trans ((y_bit10_s (k := 2) hs hr hc (by omega)).trans ((y_bit10_s (k := 3) hs hr hc (by omega)).trans ((y_bit10_s (k := 4) hs hr hc (by omega)).trans (en _)))))
theorem y_bit06_s {s r c x k : Nat} {h : Mem} (hs : s < 1000000) (hr : r < 5) (hc : c < 10) (hk : k < 5) : rX m_M_bitten m_M_bitten 5 [.int (iv s), .int (iv r), .int (iv c), .int (iv x), .int (iv k)] [] h = rX m_M_bitten m_M_bitten 5 [.int (iv s), .int (iv r), .int (iv c), .int (iv ((6 * x + bx (w06 s) r c k : Nat) : Int)), .int (iv ((k + 1 : Nat) : Int))] [] h := by
  have w := w06_lt s k
  have e := y_rowOf (h := h) hs hk
  unfold bx
  by_cases q1 : r ≤ k
  · by_cases q2 : c < w06 s k
    · rw [if_pos ⟨q1, q2⟩]
      (rw [q_M_bitten_5]; simp (disch := first | decide | omega | (simp (disch := first | decide | omega) only [sv_s, sv_o, ur_s, ur_e, ur_o]; omega)) only [↓reduceIte, iv_add, iv_sub, iv_mul, iv_neg, iv_ltT, iv_ltF, iv_leT, iv_leF, iv_eqT, iv_eqF, iv_div, iv_mod, ↓bnI_s, ↓bnV_s, ↓bnJ_s, ↓bnR_s, rt_e, rt_0, rt_bz, sv_s, sv_o, ur_s, ur_e, ur_o, bz_T, bz_F, nat_eqF, Nat.reduceAdd, il_0, il_1, il_5, il_6, e, Int.natCast_add, Int.natCast_one, Int.natCast_mul, Int.cast_ofNat_Int])
    · rw [if_neg (fun q => q2 q.2)]
      (rw [q_M_bitten_5]; simp (disch := first | decide | omega | (simp (disch := first | decide | omega) only [sv_s, sv_o, ur_s, ur_e, ur_o]; omega)) only [↓reduceIte, iv_add, iv_sub, iv_mul, iv_neg, iv_ltT, iv_ltF, iv_leT, iv_leF, iv_eqT, iv_eqF, iv_div, iv_mod, ↓bnI_s, ↓bnV_s, ↓bnJ_s, ↓bnR_s, rt_e, rt_0, rt_bz, sv_s, sv_o, ur_s, ur_e, ur_o, bz_T, bz_F, nat_eqF, Nat.reduceAdd, il_0, il_1, il_5, il_6, e, Int.natCast_add, Int.natCast_one, Int.natCast_mul, Int.cast_ofNat_Int])
  · rw [if_neg (fun q => q1 q.1)]
    (rw [q_M_bitten_5]; simp (disch := first | decide | omega | (simp (disch := first | decide | omega) only [sv_s, sv_o, ur_s, ur_e, ur_o]; omega)) only [↓reduceIte, iv_add, iv_sub, iv_mul, iv_neg, iv_ltT, iv_ltF, iv_leT, iv_leF, iv_eqT, iv_eqF, iv_div, iv_mod, ↓bnI_s, ↓bnV_s, ↓bnJ_s, ↓bnR_s, rt_e, rt_0, rt_bz, sv_s, sv_o, ur_s, ur_e, ur_o, bz_T, bz_F, nat_eqF, Nat.reduceAdd, il_0, il_1, il_5, il_6, e, Int.natCast_add, Int.natCast_one, Int.natCast_mul, Int.cast_ofNat_Int])
theorem y_bit06 {s r c : Nat} {h : Mem} (hs : s < 1000000) (hr : r < 5) (hc : c < 10) : cA m_M_bitten [.int (iv s), .int (iv r), .int (iv c)] h = some (.int (iv (b06 s r c)), h) := by
  have en : ∀ x : Nat, rX m_M_bitten m_M_bitten 5 [.int (iv s), .int (iv r), .int (iv c), .int (iv x), .int (iv ((5 : Nat) : Int))] [] h = some (.int (iv x), h) := fun x => by
    (rw [q_M_bitten_5]; simp (disch := first | decide | omega | (simp (disch := first | decide | omega) only [sv_s, sv_o, ur_s, ur_e, ur_o]; omega)) only [↓reduceIte, iv_add, iv_sub, iv_mul, iv_neg, iv_ltT, iv_ltF, iv_leT, iv_leF, iv_eqT, iv_eqF, iv_div, iv_mod, ↓bnI_s, ↓bnV_s, ↓bnJ_s, ↓bnR_s, rt_e, rt_0, rt_bz, sv_s, sv_o, ur_s, ur_e, ur_o, bz_T, bz_F, nat_eqF, Nat.reduceAdd, il_0, il_1, il_5, il_6])
  rw [q_M_bitten, il_0]
  exact (y_bit06_s (x := 0) (k := 0) hs hr hc (by omega)).trans ((y_bit06_s (k := 1) hs hr hc (by omega)).trans ((y_bit06_s (k := 2) hs hr hc (by omega)).trans ((y_bit06_s (k := 3) hs hr hc (by omega)).trans ((y_bit06_s (k := 4) hs hr hc (by omega)).trans (en _)))))
/-- the row of losing shapes stands outside -/
def Los (V : Vm) : Prop := ∀ k : Nat, k < 23 → V 1 k = (LOS.getD k 0 : Nat)
theorem LOS_rg : ∀ k, k < 23 → LOS.getD k 0 < 100000 := by decide
theorem y_isLosing_l (F : Fix z) (hL : Los V) {s : Nat} (hs : s < 1000000) : ∀ (m k : Nat), k + m = 23 → ∃ b : Int, (b = 0 ∨ b = 1) ∧ (b = 1 ↔ ∃ j, k ≤ j ∧ j < 23 ∧ LOS.getD j 0 = s) ∧ rX m_X_isLosing m_X_isLosing 2 [.int (iv s), .int (iv k)] [] (em V J z) = some (.int (iv b), em V J z) := by
  have s1 : z.2.1 1 = (8, 23) := F.2.2.1
  intro m
  induction m with
  | zero =>
    intro k hk
    refine ⟨0, Or.inl rfl, ⟨fun h => absurd h (by decide), fun ⟨j, j1, j2, _⟩ => absurd j2 (by omega)⟩, ?_⟩
    rw [q_X_isLosing_2, alN_e s1 rfl, if_neg (of_eq_false (iv_ltF (by omega))), il_0, rt_e (Or.inl rfl)]
  | succ m ih =>
    intro k hk
    have v := hL k (by omega)
    have vr := LOS_rg k (by omega)
    by_cases e : LOS.getD k 0 = s
    · refine ⟨1, Or.inr rfl, ⟨fun _ => ⟨k, by omega, by omega, e⟩, fun _ => rfl⟩, ?_⟩
      rw [q_X_isLosing_2, alN_e s1 rfl, if_pos (of_eq_true (iv_ltT (by omega))), ldIx_e s1 (by omega) (by decide), v, e, if_pos rfl, il_1, rt_e (Or.inr rfl)]
    · obtain ⟨b, b1, b2, b3⟩ := ih (k + 1) (by omega)
      refine ⟨b, b1, ?_, ?_⟩
      · rw [b2]
        constructor
        · rintro ⟨j, j1, j2, j3⟩; exact ⟨j, by omega, j2, j3⟩
        · rintro ⟨j, j1, j2, j3⟩
          refine ⟨j, ?_, j2, j3⟩
          by_cases q : j = k
          · rw [q] at j3; exact absurd j3 e
          · omega
      · rw [← b3, q_X_isLosing_2, alN_e s1 rfl, if_pos (of_eq_true (iv_ltT (by omega))), ldIx_e s1 (by omega) (by decide), v, if_neg (of_eq_false (iv_eqF (by omega))), il_1, iv_add]
        rfl
theorem lose_iff {s : Nat} : (∃ j, 0 ≤ j ∧ j < 23 ∧ LOS.getD j 0 = s) ↔ lose s = true := by
  unfold lose
  rw [List.any_eq_true]
  constructor
  · rintro ⟨j, -, j1, j2⟩
    exact ⟨LOS.getD j 0, getD_mem (L := LOS) j1, by rw [j2]; exact Nat.beq_refl s⟩
  · rintro ⟨q, hq, e⟩
    obtain ⟨j, hj, hje⟩ := List.getElem_of_mem hq
    refine ⟨j, Nat.zero_le _, hj, ?_⟩
    rw [List.getD_eq_getElem?_getD, List.getElem?_eq_getElem hj]
    exact hje.trans (Nat.eq_of_beq_eq_true e)
theorem y_isLosing (F : Fix z) (hL : Los V) {s : Nat} (hs : s < 1000000) : cA m_X_isLosing [.int (iv s)] (em V J z) = some (.int (iv (bz (lose s = true))), em V J z) := by
  obtain ⟨b, b1, b2, b3⟩ := y_isLosing_l (J := J) F hL hs 23 0 (by omega)
  rw [q_X_isLosing, il_0]
  refine b3.trans (si ?_)
  rw [lose_iff] at b2
  by_cases q : lose s = true
  · rw [bz_T q]; exact b2.mpr q
  · rw [bz_F q]
    rcases b1 with e | e
    · exact e
    · exact absurd (b2.mp e) q
/-- the class's bite -/
theorem y_bite_i (F : Fix z) (hL : Los V) {s r : Nat} (hs : s ≤ 55555) (hr : r < 5) {up : Int} (hu : up = 0 ∨ up = 1) : ∀ (m c : Nat), c + m = w10 s r → rX m_X_bite m_X_bite 19 [dd, .int (iv s), .int (iv up), .int (iv r), .int (iv c)] [] (em V J z) = if findc (fun c => lose (b10 s r c)) m c = -1 then rX m_X_bite m_X_bite 11 [dd, .int (iv s), .int (iv up), .int (iv ((r + 1 : Nat) : Int)), dd] [] (em V J z) else some (.int (iv (if up = 0 then findc (fun c => lose (b10 s r c)) m c else r)), em V J z) := by
  have wl := w10_lt s r
  have ew := y_widthOf (h := em V J z) (s := s) (r := r) (by omega) hr
  intro m
  induction m with
  | zero =>
    intro c hc
    rw [if_pos (show findc (fun c => lose (b10 s r c)) 0 c = -1 from rfl)]
    (rw [q_X_bite_19]; simp (disch := first | decide | omega | (simp (disch := first | decide | omega) only [sv_s, sv_o, ur_s, ur_e, ur_o]; omega)) only [↓reduceIte, iv_add, iv_sub, iv_mul, iv_neg, iv_ltT, iv_ltF, iv_leT, iv_leF, iv_eqT, iv_eqF, iv_div, iv_mod, ↓bnI_s, ↓bnV_s, ↓bnJ_s, ↓bnR_s, rt_e, rt_0, rt_bz, sv_s, sv_o, ur_s, ur_e, ur_o, bz_T, bz_F, nat_eqF, Nat.reduceAdd, il_0, il_1, il_11, il_19, ew, Int.natCast_add, Int.natCast_one])
  | succ m ih =>
    intro c hc
    have bl : b10 s r c < 1000000 := by
      have b0 := bx_lt (w10 s) 10 r c 0 (w10_lt s)
      have b1 := bx_lt (w10 s) 10 r c 1 (w10_lt s)
      have b2 := bx_lt (w10 s) 10 r c 2 (w10_lt s)
      have b3 := bx_lt (w10 s) 10 r c 3 (w10_lt s)
      have b4 := bx_lt (w10 s) 10 r c 4 (w10_lt s)
      unfold b10; omega
    have eb := y_bit10 (h := em V J z) (s := s) (r := r) (c := c) (by omega) hr (by omega)
    have el := y_isLosing (J := J) F hL bl
    have un : findc (fun c => lose (b10 s r c)) (m + 1) c = if lose (b10 s r c) = true then (c : Int) else findc (fun c => lose (b10 s r c)) m (c + 1) := rfl
    rw [un]
    by_cases q : lose (b10 s r c) = true
    · rw [bz_T q] at el
      rw [if_pos q, if_neg (by omega)]
      rcases hu with rfl | rfl
      · rw [if_pos rfl]
        (rw [q_X_bite_19]; simp (disch := first | decide | omega | (simp (disch := first | decide | omega) only [sv_s, sv_o, ur_s, ur_e, ur_o]; omega)) only [↓reduceIte, iv_add, iv_sub, iv_mul, iv_neg, iv_ltT, iv_ltF, iv_leT, iv_leF, iv_eqT, iv_eqF, iv_div, iv_mod, ↓bnI_s, ↓bnV_s, ↓bnJ_s, ↓bnR_s, rt_e, rt_0, rt_bz, sv_s, sv_o, ur_s, ur_e, ur_o, bz_T, bz_F, nat_eqF, Nat.reduceAdd, il_0, il_1, il_11, il_19, ew, eb, el])
      · rw [if_neg (by decide)]
        (rw [q_X_bite_19]; simp (disch := first | decide | omega | (simp (disch := first | decide | omega) only [sv_s, sv_o, ur_s, ur_e, ur_o]; omega)) only [↓reduceIte, iv_add, iv_sub, iv_mul, iv_neg, iv_ltT, iv_ltF, iv_leT, iv_leF, iv_eqT, iv_eqF, iv_div, iv_mod, ↓bnI_s, ↓bnV_s, ↓bnJ_s, ↓bnR_s, rt_e, rt_0, rt_bz, sv_s, sv_o, ur_s, ur_e, ur_o, bz_T, bz_F, nat_eqF, Nat.reduceAdd, il_0, il_1, il_11, il_19, ew, eb, el])
    · rw [bz_F q] at el
      rw [if_neg q, ← ih (c + 1) (by omega)]
      (rw [q_X_bite_19]; simp (disch := first | decide | omega | (simp (disch := first | decide | omega) only [sv_s, sv_o, ur_s, ur_e, ur_o]; omega)) only [↓reduceIte, iv_add, iv_sub, iv_mul, iv_neg, iv_ltT, iv_ltF, iv_leT, iv_leF, iv_eqT, iv_eqF, iv_div, iv_mod, ↓bnI_s, ↓bnV_s, ↓bnJ_s, ↓bnR_s, rt_e, rt_0, rt_bz, sv_s, sv_o, ur_s, ur_e, ur_o, bz_T, bz_F, nat_eqF, Nat.reduceAdd, il_0, il_1, il_11, il_19, ew, eb, el, Int.natCast_add, Int.natCast_one])
theorem y_bite_o (F : Fix z) (hL : Los V) {s : Nat} (hs : s ≤ 55555) {up : Int} (hu : up = 0 ∨ up = 1) : ∀ (m r : Nat), r + m = 5 → rX m_X_bite m_X_bite 11 [dd, .int (iv s), .int (iv up), .int (iv r), dd] [] (em V J z) = some (.int (iv (if up = 0 then (findr (fun r c => lose (b10 s r c)) (w10 s) m r).2 else (findr (fun r c => lose (b10 s r c)) (w10 s) m r).1)), em V J z) := by
  intro m
  induction m with
  | zero =>
    intro r hr
    rw [show (if up = 0 then (findr (fun r c => lose (b10 s r c)) (w10 s) 0 r).2 else (findr (fun r c => lose (b10 s r c)) (w10 s) 0 r).1) = -1 by split <;> rfl]
    (rw [q_X_bite_11]; simp (disch := first | decide | omega | (simp (disch := first | decide | omega) only [sv_s, sv_o, ur_s, ur_e, ur_o]; omega)) only [↓reduceIte, iv_add, iv_sub, iv_mul, iv_neg, iv_ltT, iv_ltF, iv_leT, iv_leF, iv_eqT, iv_eqF, iv_div, iv_mod, ↓bnI_s, ↓bnV_s, ↓bnJ_s, ↓bnR_s, rt_e, rt_0, rt_bz, sv_s, sv_o, ur_s, ur_e, ur_o, bz_T, bz_F, nat_eqF, Nat.reduceAdd, il_0, il_1, il_5, il_11, il_19])
  | succ m ih =>
    intro r hr
    have st : rX m_X_bite m_X_bite 11 [dd, .int (iv s), .int (iv up), .int (iv r), dd] [] (em V J z) = rX m_X_bite m_X_bite 19 [dd, .int (iv s), .int (iv up), .int (iv r), .int (iv ((0 : Nat) : Int))] [] (em V J z) := by
      (rw [q_X_bite_11]; simp (disch := first | decide | omega | (simp (disch := first | decide | omega) only [sv_s, sv_o, ur_s, ur_e, ur_o]; omega)) only [↓reduceIte, iv_add, iv_sub, iv_mul, iv_neg, iv_ltT, iv_ltF, iv_leT, iv_leF, iv_eqT, iv_eqF, iv_div, iv_mod, ↓bnI_s, ↓bnV_s, ↓bnJ_s, ↓bnR_s, rt_e, rt_0, rt_bz, sv_s, sv_o, ur_s, ur_e, ur_o, bz_T, bz_F, nat_eqF, Nat.reduceAdd, il_0, il_1, il_5, il_11, il_19])
      rfl
    rw [st, y_bite_i F hL hs (by omega) hu (w10 s r) 0 (by omega)]
    have un : findr (fun r c => lose (b10 s r c)) (w10 s) (m + 1) r = if findc (fun c => lose (b10 s r c)) (w10 s r) 0 = -1 then findr (fun r c => lose (b10 s r c)) (w10 s) m (r + 1) else ((r : Int), findc (fun c => lose (b10 s r c)) (w10 s r) 0) := rfl
    rw [un]
    by_cases q : findc (fun c => lose (b10 s r c)) (w10 s r) 0 = -1
    · rw [if_pos q, if_pos q]
      exact ih (r + 1) (by omega)
    · rw [if_neg q, if_neg q]
/-! the model's -/
/-- what it has laid down below n is right -/
def WOk (V : Vm) (n : Nat) : Prop := ∀ j : Nat, j < n → vd j = true → V 450 j = if lose (T10n j) = true then 0 else 1
theorem y_biteOf_i (F : Fix z) {v r : Nat} (hv : v < 7776) (hd : vd v = true) (hW : WOk V v) (hr : r < 5) : ∀ (m c : Nat), c + m = w06 v r → rX m_M_biteOf m_M_biteOf 9 [.ref 435, .int (iv v), .int (iv r), .int (iv c)] [] (em V J z) = if findc (fun c => lose (T10n (b06 v r c))) m c = -1 then rX m_M_biteOf m_M_biteOf 2 [.ref 435, .int (iv v), .int (iv ((r + 1 : Nat) : Int)), dd] [] (em V J z) else some (.int (iv (5 * r + findc (fun c => lose (T10n (b06 v r c))) m c)), em V J z) := by
  have wl := w06_lt v r
  have ew := y_rowOf (h := em V J z) (s := v) (r := r) (by omega) hr
  intro m
  induction m with
  | zero =>
    intro c hc
    rw [if_pos (show findc (fun c => lose (T10n (b06 v r c))) 0 c = -1 from rfl)]
    (rw [q_M_biteOf_9]; simp (disch := first | decide | omega | (simp (disch := first | decide | omega) only [sv_s, sv_o, ur_s, ur_e, ur_o]; omega)) only [↓reduceIte, iv_add, iv_sub, iv_mul, iv_neg, iv_ltT, iv_ltF, iv_leT, iv_leF, iv_eqT, iv_eqF, iv_div, iv_mod, ↓bnI_s, ↓bnV_s, ↓bnJ_s, ↓bnR_s, rt_e, rt_0, rt_bz, sv_s, sv_o, ur_s, ur_e, ur_o, bz_T, bz_F, nat_eqF, Nat.reduceAdd, ↓gR_435_38 F, ↓lI_436 F, ↓lI_437 F, ↓lI_438 F, ↓lI_439 F, ↓lI_440 F, ↓lI_441 F, ↓lI_443 F, ↓lI_444 F, ↓lI_445 F, ↓lI_446 F, ↓lI_447 F, ↓lI_448 F, ↓lI_449 F, ↓lI_450 F, il_0, il_1, il_2, il_5, il_9, il_11, il_38, ew, Int.natCast_add, Int.natCast_one])
  | succ m ih =>
    intro c hc
    obtain ⟨g1, g2, g3⟩ := (G_at hv hd).2.1 r hr c (by omega)
    have eb := y_bit06 (h := em V J z) (s := v) (r := r) (c := c) (by omega) hr (by omega)
    have w := hW _ g1 g2
    have un : findc (fun c => lose (T10n (b06 v r c))) (m + 1) c = if lose (T10n (b06 v r c)) = true then (c : Int) else findc (fun c => lose (T10n (b06 v r c))) m (c + 1) := rfl
    rw [un]
    by_cases q : lose (T10n (b06 v r c)) = true
    · rw [if_pos q] at w
      rw [if_pos q, if_neg (by omega)]
      (rw [q_M_biteOf_9]; simp (disch := first | decide | omega | (simp (disch := first | decide | omega) only [sv_s, sv_o, ur_s, ur_e, ur_o]; omega)) only [↓reduceIte, iv_add, iv_sub, iv_mul, iv_neg, iv_ltT, iv_ltF, iv_leT, iv_leF, iv_eqT, iv_eqF, iv_div, iv_mod, ↓bnI_s, ↓bnV_s, ↓bnJ_s, ↓bnR_s, rt_e, rt_0, rt_bz, sv_s, sv_o, ur_s, ur_e, ur_o, bz_T, bz_F, nat_eqF, Nat.reduceAdd, ↓gR_435_38 F, ↓lI_436 F, ↓lI_437 F, ↓lI_438 F, ↓lI_439 F, ↓lI_440 F, ↓lI_441 F, ↓lI_443 F, ↓lI_444 F, ↓lI_445 F, ↓lI_446 F, ↓lI_447 F, ↓lI_448 F, ↓lI_449 F, ↓lI_450 F, il_0, il_1, il_2, il_5, il_9, il_11, il_38, ew, eb, w])
    · rw [if_neg q] at w
      rw [if_neg q, ← ih (c + 1) (by omega)]
      (rw [q_M_biteOf_9]; simp (disch := first | decide | omega | (simp (disch := first | decide | omega) only [sv_s, sv_o, ur_s, ur_e, ur_o]; omega)) only [↓reduceIte, iv_add, iv_sub, iv_mul, iv_neg, iv_ltT, iv_ltF, iv_leT, iv_leF, iv_eqT, iv_eqF, iv_div, iv_mod, ↓bnI_s, ↓bnV_s, ↓bnJ_s, ↓bnR_s, rt_e, rt_0, rt_bz, sv_s, sv_o, ur_s, ur_e, ur_o, bz_T, bz_F, nat_eqF, Nat.reduceAdd, ↓gR_435_38 F, ↓lI_436 F, ↓lI_437 F, ↓lI_438 F, ↓lI_439 F, ↓lI_440 F, ↓lI_441 F, ↓lI_443 F, ↓lI_444 F, ↓lI_445 F, ↓lI_446 F, ↓lI_447 F, ↓lI_448 F, ↓lI_449 F, ↓lI_450 F, il_0, il_1, il_2, il_5, il_9, il_11, il_38, ew, eb, w, Int.natCast_add, Int.natCast_one])
/-- the bite as the model tells it -/
def enc (q : Int × Int) : Int := if q.1 = -1 then -1 else 5 * q.1 + q.2
theorem y_biteOf_o (F : Fix z) {v : Nat} (hv : v < 7776) (hd : vd v = true) (hW : WOk V v) : ∀ (m r : Nat), r + m = 5 → rX m_M_biteOf m_M_biteOf 2 [.ref 435, .int (iv v), .int (iv r), dd] [] (em V J z) = some (.int (iv (enc (findr (fun r c => lose (T10n (b06 v r c))) (w06 v) m r))), em V J z) := by
  intro m
  induction m with
  | zero =>
    intro r hr
    rw [show enc (findr (fun r c => lose (T10n (b06 v r c))) (w06 v) 0 r) = -1 from rfl]
    (rw [q_M_biteOf_2]; simp (disch := first | decide | omega | (simp (disch := first | decide | omega) only [sv_s, sv_o, ur_s, ur_e, ur_o]; omega)) only [↓reduceIte, iv_add, iv_sub, iv_mul, iv_neg, iv_ltT, iv_ltF, iv_leT, iv_leF, iv_eqT, iv_eqF, iv_div, iv_mod, ↓bnI_s, ↓bnV_s, ↓bnJ_s, ↓bnR_s, rt_e, rt_0, rt_bz, sv_s, sv_o, ur_s, ur_e, ur_o, bz_T, bz_F, nat_eqF, Nat.reduceAdd, il_0, il_1, il_2, il_5, il_9])
  | succ m ih =>
    intro r hr
    have st : rX m_M_biteOf m_M_biteOf 2 [.ref 435, .int (iv v), .int (iv r), dd] [] (em V J z) = rX m_M_biteOf m_M_biteOf 9 [.ref 435, .int (iv v), .int (iv r), .int (iv ((0 : Nat) : Int))] [] (em V J z) := by
      (rw [q_M_biteOf_2]; simp (disch := first | decide | omega | (simp (disch := first | decide | omega) only [sv_s, sv_o, ur_s, ur_e, ur_o]; omega)) only [↓reduceIte, iv_add, iv_sub, iv_mul, iv_neg, iv_ltT, iv_ltF, iv_leT, iv_leF, iv_eqT, iv_eqF, iv_div, iv_mod, ↓bnI_s, ↓bnV_s, ↓bnJ_s, ↓bnR_s, rt_e, rt_0, rt_bz, sv_s, sv_o, ur_s, ur_e, ur_o, bz_T, bz_F, nat_eqF, Nat.reduceAdd, il_0, il_1, il_2, il_5, il_9])
      rfl
    rw [st, y_biteOf_i F hv hd hW (by omega) (w06 v r) 0 (by omega)]
    have un : findr (fun r c => lose (T10n (b06 v r c))) (w06 v) (m + 1) r = if findc (fun c => lose (T10n (b06 v r c))) (w06 v r) 0 = -1 then findr (fun r c => lose (T10n (b06 v r c))) (w06 v) m (r + 1) else ((r : Int), findc (fun c => lose (T10n (b06 v r c))) (w06 v r) 0) := rfl
    rw [un]
    by_cases q : findc (fun c => lose (T10n (b06 v r c))) (w06 v r) 0 = -1
    · rw [if_pos q, if_pos q]
      exact ih (r + 1) (by omega)
    · rw [if_neg q, if_neg q]
      refine si ?_
      unfold enc
      rw [if_neg (by show ¬ (r : Int) = -1; omega)]
theorem y_biteOf (F : Fix z) {v : Nat} (hv : v < 7776) (hd : vd v = true) (hW : WOk V v) : cA m_M_biteOf [.ref 435, .int (iv v)] (em V J z) = some (.int (iv (enc (findr (fun r c => lose (T10n (b06 v r c))) (w06 v) 5 0))), em V J z) := by
  rw [q_M_biteOf, gd_435 F, il_0]
  exact y_biteOf_o F hv hd hW 5 0 (by omega)
theorem enc_lose {v : Nat} (hv : v < 7776) (hd : vd v = true) (h0 : v ≠ 0) : (enc (findr (fun r c => lose (T10n (b06 v r c))) (w06 v) 5 0) = -1 ↔ lose (T10n v) = true) ∧ (-1 ≤ enc (findr (fun r c => lose (T10n (b06 v r c))) (w06 v) 5 0) ∧ enc (findr (fun r c => lose (T10n (b06 v r c))) (w06 v) 5 0) < 100) := by
  have g := (G_at hv hd).2.2 h0
  rcases findr_spec (fun r c => lose (T10n (b06 v r c))) (w06 v) 5 0 with ⟨a, b⟩ | ⟨k, c, x1, x2, x3, x4, x5⟩
  · rw [a]
    refine ⟨⟨fun _ => ?_, fun _ => rfl⟩, by decide⟩
    cases hh : lose (T10n v) with
    | true => rfl
    | false =>
      obtain ⟨r, hr, c, hc, hl⟩ := g.mpr hh
      have := b r (by omega) (by omega) c hc
      rw [this] at hl; cases hl
  · rw [x5]
    have wl := w06_lt v k
    have e : enc ((k : Int), (c : Int)) = 5 * k + c := by unfold enc; rw [if_neg (by show ¬ (k : Int) = -1; omega)]
    rw [e]
    refine ⟨⟨fun q => absurd q (by omega), fun q => ?_⟩, by omega⟩
    have := g.mp ⟨k, by omega, c, x3, x4⟩
    rw [this] at q; cases q
theorem y_M_isShape {v : Nat} {h : Mem} (hv : v < 7776) : cA m_M_isShape [.int (iv v)] h = some (.int (iv (bz (vd v = true))), h) := by
  have e0 := y_rowOf (h := h) (s := v) (r := 0) (by omega) (by omega)
  have e1 := y_rowOf (h := h) (s := v) (r := 1) (by omega) (by omega)
  have e2 := y_rowOf (h := h) (s := v) (r := 2) (by omega) (by omega)
  have e3 := y_rowOf (h := h) (s := v) (r := 3) (by omega) (by omega)
  have e4 := y_rowOf (h := h) (s := v) (r := 4) (by omega) (by omega)
  have l0 := w06_lt v 0
  have l1 := w06_lt v 1
  have l2 := w06_lt v 2
  have l3 := w06_lt v 3
  have l4 := w06_lt v 4
  have iff : vd v = true ↔ (w06 v 1 ≤ w06 v 0 ∧ w06 v 2 ≤ w06 v 1 ∧ w06 v 3 ≤ w06 v 2 ∧ w06 v 4 ≤ w06 v 3) := by
    unfold vd
    simp only [Bool.and_eq_true, Nat.ble_eq]
    omega
  rw [bz_eq iff]
  generalize w06 v 0 = x0 at *
  generalize w06 v 1 = x1 at *
  generalize w06 v 2 = x2 at *
  generalize w06 v 3 = x3 at *
  generalize w06 v 4 = x4 at *
  have e0 : cA m_M_rowOf [.int (iv v), .int (iv 0)] h = some (.int (iv (x0 : Int)), h) := e0
  have e1 : cA m_M_rowOf [.int (iv v), .int (iv 1)] h = some (.int (iv (x1 : Int)), h) := e1
  have e2 : cA m_M_rowOf [.int (iv v), .int (iv 2)] h = some (.int (iv (x2 : Int)), h) := e2
  have e3 : cA m_M_rowOf [.int (iv v), .int (iv 3)] h = some (.int (iv (x3 : Int)), h) := e3
  have e4 : cA m_M_rowOf [.int (iv v), .int (iv 4)] h = some (.int (iv (x4 : Int)), h) := e4
  by_cases q1 : x1 ≤ x0
  · by_cases q2 : x2 ≤ x1
    · by_cases q3 : x3 ≤ x2
      · by_cases q4 : x4 ≤ x3
        · simp (disch := first | decide | omega | (simp (disch := first | decide | omega) only [sv_s, sv_o, ur_s, ur_e, ur_o]; omega)) only [↓reduceIte, iv_add, iv_sub, iv_mul, iv_neg, iv_ltT, iv_ltF, iv_leT, iv_leF, iv_eqT, iv_eqF, iv_div, iv_mod, ↓bnI_s, ↓bnV_s, ↓bnJ_s, ↓bnR_s, rt_e, rt_0, rt_bz, sv_s, sv_o, ur_s, ur_e, ur_o, bz_T, bz_F, nat_eqF, Nat.reduceAdd, ↓q_M_isShape, ↓q_M_isShape_2, il_0, il_1, il_2, il_5, e0, e1, e2, e3, e4, Int.reduceAdd, Int.reduceSub]
        · simp (disch := first | decide | omega | (simp (disch := first | decide | omega) only [sv_s, sv_o, ur_s, ur_e, ur_o]; omega)) only [↓reduceIte, iv_add, iv_sub, iv_mul, iv_neg, iv_ltT, iv_ltF, iv_leT, iv_leF, iv_eqT, iv_eqF, iv_div, iv_mod, ↓bnI_s, ↓bnV_s, ↓bnJ_s, ↓bnR_s, rt_e, rt_0, rt_bz, sv_s, sv_o, ur_s, ur_e, ur_o, bz_T, bz_F, nat_eqF, Nat.reduceAdd, ↓q_M_isShape, ↓q_M_isShape_2, il_0, il_1, il_2, il_5, e0, e1, e2, e3, e4, Int.reduceAdd, Int.reduceSub]
      · simp (disch := first | decide | omega | (simp (disch := first | decide | omega) only [sv_s, sv_o, ur_s, ur_e, ur_o]; omega)) only [↓reduceIte, iv_add, iv_sub, iv_mul, iv_neg, iv_ltT, iv_ltF, iv_leT, iv_leF, iv_eqT, iv_eqF, iv_div, iv_mod, ↓bnI_s, ↓bnV_s, ↓bnJ_s, ↓bnR_s, rt_e, rt_0, rt_bz, sv_s, sv_o, ur_s, ur_e, ur_o, bz_T, bz_F, nat_eqF, Nat.reduceAdd, ↓q_M_isShape, ↓q_M_isShape_2, il_0, il_1, il_2, il_5, e0, e1, e2, e3, Int.reduceAdd, Int.reduceSub]
    · simp (disch := first | decide | omega | (simp (disch := first | decide | omega) only [sv_s, sv_o, ur_s, ur_e, ur_o]; omega)) only [↓reduceIte, iv_add, iv_sub, iv_mul, iv_neg, iv_ltT, iv_ltF, iv_leT, iv_leF, iv_eqT, iv_eqF, iv_div, iv_mod, ↓bnI_s, ↓bnV_s, ↓bnJ_s, ↓bnR_s, rt_e, rt_0, rt_bz, sv_s, sv_o, ur_s, ur_e, ur_o, bz_T, bz_F, nat_eqF, Nat.reduceAdd, ↓q_M_isShape, ↓q_M_isShape_2, il_0, il_1, il_2, il_5, e0, e1, e2, Int.reduceAdd, Int.reduceSub]
  · simp (disch := first | decide | omega | (simp (disch := first | decide | omega) only [sv_s, sv_o, ur_s, ur_e, ur_o]; omega)) only [↓reduceIte, iv_add, iv_sub, iv_mul, iv_neg, iv_ltT, iv_ltF, iv_leT, iv_leF, iv_eqT, iv_eqF, iv_div, iv_mod, ↓bnI_s, ↓bnV_s, ↓bnJ_s, ↓bnR_s, rt_e, rt_0, rt_bz, sv_s, sv_o, ur_s, ur_e, ur_o, bz_T, bz_F, nat_eqF, Nat.reduceAdd, ↓q_M_isShape, ↓q_M_isShape_2, il_0, il_1, il_2, il_5, e0, e1, Int.reduceAdd, Int.reduceSub]
end
