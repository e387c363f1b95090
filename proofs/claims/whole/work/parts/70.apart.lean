/-! THE ROW ALONE: what a call makes of it, class and model apart -/
def KS (V : Vm) (A : Int → Int) : Prop := Kn V 10 A ∧ Sts V 9 A
def Ls (A : Int → Int) : Prop := ∀ i, 0 ≤ i → i + 1 = A 3 → snp A i 0 = A 0
def frX (V V' : Vm) : Prop := ∀ a k, scr a k = false → ¬ (10 ≤ a ∧ a < 16) → ¬ (30 ≤ a ∧ a < 210) → ¬ (a = 9 ∧ (k = 9 ∨ k = 10)) → V' a k = V a k
def frM (V V' : Vm) : Prop := ∀ a k, scr a k = false ∨ a = 444 → a ≠ 436 → V' a k = V a k
def kf (A A' : Int → Int) : Prop := (∀ k, k = 1 ∨ k = 2 ∨ k = 4 ∨ k = 5 ∨ k = 6 ∨ (35 ≤ k ∧ k < 165) → A' k = A k) ∧ A 0 ≤ A' 0
theorem frX.rfl_ {V : Vm} : frX V V := fun _ _ _ _ _ _ => rfl
theorem frX.tr {V V' V'' : Vm} (h : frX V V') (h' : frX V' V'') : frX V V'' := fun a k s h1 h2 h3 => (h' a k s h1 h2 h3).trans (h a k s h1 h2 h3)
theorem frM.rfl_ {V : Vm} : frM V V := fun _ _ _ _ => rfl
theorem frM.tr {V V' V'' : Vm} (h : frM V V') (h' : frM V' V'') : frM V V'' := fun a k s h1 => (h' a k s h1).trans (h a k s h1)
theorem kf.rfl_ {A : Int → Int} : kf A A := ⟨fun _ _ => rfl, Int.le_refl _⟩
theorem kf.tr {A A' A'' : Int → Int} (h : kf A A') (h' : kf A' A'') : kf A A'' := ⟨fun k hk => (h'.1 k hk).trans (h.1 k hk), Int.le_trans h.2 h'.2⟩
/-- in the middle of a run: the class's part shows the row A -/
def Mid (V0 V : Vm) (A : Int → Int) : Prop := frX V0 V ∧ KS V A ∧ kf (V0 436) A
/-- a pair of calls, apart -/
def Dd (z : Zz) (V0 : Vm) (X M : Mem → Rs) : Prop := ∀ V J A, Mid V0 V A → ∃ e A' V' J', X (em V J z) = some (.int (iv e), em V' J' z) ∧ Mid V0 V' A' ∧ (-1 ≤ e ∧ e < 20000) ∧ ∀ U K, U 436 = A → U 438 = V0 438 → U 435 23 = 1 → ∃ U' K', M (em U K z) = some (.int (iv e), em U' K' z) ∧ U' 436 = A' ∧ frM U U'
section
variable {V V' V0 V1 V3 J : Vm} {z : Zz} {A A' A1 A3 B : Int → Int}
theorem KS_c (hr : ∀ a, 9 ≤ a → a < 210 → V' a = V a) (h : KS V A) : KS V' A :=
  ⟨Kn_c (hr _ (by omega) (by omega)) (hr _ (by omega) (by omega)) (hr _ (by omega) (by omega)) (hr _ (by omega) (by omega)) (hr _ (by omega) (by omega)) (hr _ (by omega) (by omega)) rfl (fun _ _ _ => rfl) (fun _ _ _ => rfl) h.1, Sts_c (hr _ (by omega) (by omega)) (fun a h1 h2 => hr a (by omega) (by omega)) rfl rfl (fun _ _ _ => rfl) (fun _ _ _ => rfl) h.2⟩
theorem Mid.row (m : Mid V0 V A) {a : Nat} (h : a < 9 ∨ (210 ≤ a ∧ a < 411) ∨ a = 420 ∨ a = 432 ∨ (436 ≤ a ∧ a ≤ 439) ∨ 450 < a ∨ (16 ≤ a ∧ a < 30)) : V a = V0 a := funext fun k => m.1 a k (scr_F (by omega)) (by omega) (by omega) (by omega)
theorem Mid.start (TX : Vm → Zz → Nat → Int → Prop) {I0 : Nat → Nat → Int32} (g : GI TX I0 V z) : Mid V V (V 436) := ⟨frX.rfl_, ⟨g.1.1, g.1.2.1⟩, kf.rfl_⟩
theorem Dd.pc {TX : Vm → Zz → Nat → Int → Prop} (T : TXok TX) {I0 : Nat → Nat → Int32} {X M : Mem → Rs} (g : GI TX I0 V z) (h : Dd z V X M) : Pc TX I0 V J z X M := by
  obtain ⟨e, A', V', J', e1, m, _, e2⟩ := h V J (V 436) (Mid.start TX g)
  have r6 : V' 436 = V 436 := m.row (by omega)
  obtain ⟨U', K', f1, f2, f3⟩ := e2 V' J' r6 (m.row (by omega)) (by rw [m.1 435 23 (scr_F (by omega)) (by omega) (by omega) (by omega)]; exact g.2.2.2.2.2.2.1)
  have ur' : ∀ a, 9 ≤ a → a < 210 → U' a = V' a := fun a h1 h2 => funext fun k => f3 a k (Or.inl (scr_F (by omega))) (by omega)
  have ks := KS_c ur' m.2.1
  refine ⟨e, V', J', U', K', e1, f1, GI_K T g (fun a k s h1 h2 h3 h4 => (f3 a k (Or.inl s) h4).trans (m.1 a k s h1 h2 h3)) (fun k hk => ?_) ?_ ?_ ?_⟩
  · rw [f2]; exact m.2.2.1 k hk
  · rw [f2]; exact m.2.2.2
  · rw [f2]; exact ks.1
  · rw [f2]; exact ks.2
/-- the row ahead of keeping, the row kept -/
def shA (A : Int → Int) : Int → Int := fun k => if A 3 = 30 then (if k = 3 then 29 else if 165 ≤ k ∧ k < 1383 then A (k + 42) else A k) else A k
def kpA (B : Int → Int) : Int → Int := fun k => if k = 3 then B 3 + 1 else if 165 + 42 * B 3 ≤ k ∧ k < 165 + 42 * B 3 + 42 then (if k = 165 + 42 * B 3 then B 0 else if k < 165 + 42 * B 3 + 17 then B (k - (165 + 42 * B 3) + 6) else B (k - (165 + 42 * B 3) + 1408)) else B k
def keepA (A : Int → Int) : Int → Int := kpA (shA A)
theorem Sh.eq (h : Sh A B) : B = shA A := by
  funext k
  unfold shA
  rcases h with ⟨h1, rfl⟩ | ⟨h1, h2, h3⟩
  · rw [if_neg (by omega)]
  · rw [if_pos h1]
    by_cases q : k = 3
    · rw [if_pos q, q, h2]
    · rw [if_neg q, h3 k q]
theorem Kp.eq (h : Kp B A' (B 3)) : A' = kpA B := by
  funext k
  unfold kpA
  by_cases q : k = 3
  · rw [if_pos q, q, h.1]
  · rw [if_neg q, h.2 k q]
theorem shA_Sh (h : 0 ≤ A 3 ∧ A 3 ≤ 30) : Sh A (shA A) := by
  by_cases q : A 3 = 30
  · refine Or.inr ⟨q, ?_, fun k hk => ?_⟩
    · unfold shA; rw [if_pos q, if_pos rfl]
    · unfold shA; rw [if_pos q, if_neg hk]
  · exact Or.inl ⟨by omega, funext fun k => by unfold shA; rw [if_neg q]⟩
theorem kpA_Kp : Kp B (kpA B) (B 3) := ⟨by unfold kpA; rw [if_pos rfl], fun k hk => by unfold kpA; rw [if_neg hk]⟩
theorem y_keepA (F : Fix z) (h : 0 ≤ V 436 3 ∧ V 436 3 ≤ 30) : ∃ V', cA m_M_keep [.ref 435] (em V J z) = some (.null, em V' J z) ∧ (∀ a, a ≠ 436 → V' a = V a) ∧ V' 436 = keepA (V 436) := by
  obtain ⟨B, V', e1, e2, e3, e4⟩ := y_keep (J := J) F h
  refine ⟨V', e1, e2, ?_⟩
  rw [e4.eq, e3.eq]; rfl
theorem shA3 (h : 0 ≤ A 3 ∧ A 3 ≤ 30) : 0 ≤ shA A 3 ∧ shA A 3 < 30 := by
  unfold shA
  by_cases q : A 3 = 30
  · rw [if_pos q, if_pos rfl]; omega
  · rw [if_neg q]; omega
theorem keepA_o (h : 0 ≤ A 3 ∧ A 3 ≤ 30) {k : Int} (k3 : k ≠ 3) (hk : k < 165 ∨ 1425 ≤ k) : keepA A k = A k := by
  have b := shA3 h
  unfold keepA kpA
  rw [if_neg k3, if_neg (by omega)]
  unfold shA
  by_cases q : A 3 = 30
  · rw [if_pos q, if_neg k3, if_neg (by omega)]
  · rw [if_neg q]
theorem y_saveA (F : Fix z) (h : KS V A) : ∃ V1, cA m_House_saveStep [.ref 9] (em V J z) = some (.null, em V1 J z) ∧ (∀ a k, ¬ (30 ≤ a ∧ a < 210) → ¬ (a = 9 ∧ (k = 9 ∨ k = 10)) → V1 a k = V a k) ∧ KS V1 (keepA A) ∧ Ls (keepA A) := by
  obtain ⟨n, s⟩ := h
  have s0 := s
  obtain ⟨s1, s2, s3, s4⟩ := s
  obtain ⟨W, V1, e1, e2, e3⟩ := y_saveStep (V := V) (J := J) F s3 (by omega)
  have hS := shA_Sh s2
  have hB := shA3 s2
  have o : ∀ a k, ¬ (30 ≤ a ∧ a < 210) → ¬ (a = 9 ∧ (k = 9 ∨ k = 10)) → V1 a k = V a k := by
    intro a k h1 h2
    have w : W a = V a := e2.1 a (by omega)
    have w9 : W 9 = V 9 := e2.1 9 (by omega)
    rw [e3]
    split
    · by_cases q : a = 9
      · subst q
        rw [show sv W 9 10 (V 9 10 + 1) 9 k = W 9 k by simp (disch := first | decide | omega | (simp (disch := first | decide | omega) only [sv_s, sv_o, ur_s, ur_e, ur_o]; omega)) only [↓reduceIte, iv_add, iv_sub, iv_mul, iv_neg, iv_ltT, iv_ltF, iv_leT, iv_leF, iv_eqT, iv_eqF, iv_div, iv_mod, ↓bnI_s, ↓bnV_s, ↓bnJ_s, ↓bnR_s, rt_e, rt_0, rt_bz, sv_s, sv_o, ur_s, ur_e, ur_o, bz_T, bz_F, nat_eqF, Nat.reduceAdd], w9]
      · simp (disch := first | decide | omega | (simp (disch := first | decide | omega) only [sv_s, sv_o, ur_s, ur_e, ur_o]; omega)) only [↓reduceIte, iv_add, iv_sub, iv_mul, iv_neg, iv_ltT, iv_ltF, iv_leT, iv_leF, iv_eqT, iv_eqF, iv_div, iv_mod, ↓bnI_s, ↓bnV_s, ↓bnJ_s, ↓bnR_s, rt_e, rt_0, rt_bz, sv_s, sv_o, ur_s, ur_e, ur_o, bz_T, bz_F, nat_eqF, Nat.reduceAdd, w]
    · by_cases q : a = 9
      · subst q
        rw [show sv W 9 9 ((V 9 9 + 1) % 30) 9 k = W 9 k by simp (disch := first | decide | omega | (simp (disch := first | decide | omega) only [sv_s, sv_o, ur_s, ur_e, ur_o]; omega)) only [↓reduceIte, iv_add, iv_sub, iv_mul, iv_neg, iv_ltT, iv_ltF, iv_leT, iv_leF, iv_eqT, iv_eqF, iv_div, iv_mod, ↓bnI_s, ↓bnV_s, ↓bnJ_s, ↓bnR_s, rt_e, rt_0, rt_bz, sv_s, sv_o, ur_s, ur_e, ur_o, bz_T, bz_F, nat_eqF, Nat.reduceAdd], w9]
      · simp (disch := first | decide | omega | (simp (disch := first | decide | omega) only [sv_s, sv_o, ur_s, ur_e, ur_o]; omega)) only [↓reduceIte, iv_add, iv_sub, iv_mul, iv_neg, iv_ltT, iv_ltF, iv_leT, iv_leF, iv_eqT, iv_eqF, iv_div, iv_mod, ↓bnI_s, ↓bnV_s, ↓bnJ_s, ↓bnR_s, rt_e, rt_0, rt_bz, sv_s, sv_o, ur_s, ur_e, ur_o, bz_T, bz_F, nat_eqF, Nat.reduceAdd, w]
  have r : ∀ a, 10 ≤ a → a < 16 → V1 a = V a := fun a h1 h2 => funext fun k => o a k (by omega) (by omega)
  refine ⟨V1, e1, o, ⟨Kn_c (r _ (by omega) (by omega)) (r _ (by omega) (by omega)) (r _ (by omega) (by omega)) (r _ (by omega) (by omega)) (r _ (by omega) (by omega)) (r _ (by omega) (by omega)) (keepA_o s2 (by omega) (by omega)) (fun k h1 h2 => keepA_o s2 (by omega) (by omega)) (fun k h1 h2 => keepA_o s2 (by omega) (by omega)) n, Sts_save s0 n e2 e3 hS kpA_Kp⟩, fun i i0 i1 => ?_⟩
  have k3 : keepA A 3 = shA A 3 + 1 := kpA_Kp.1
  rw [show i = shA A 3 by omega, show snp (keepA A) (shA A 3) 0 = shA A 0 from Kp_new hB kpA_Kp 0 (by omega), show keepA A 0 = shA A 0 from Kp_old hB kpA_Kp (by omega)]
theorem KS_turn (h : KS V1 A1) (l : Ls A1) (hv : ∀ a, 9 ≤ a → a < 210 → ¬ (10 ≤ a ∧ a < 16) → V3 a = V1 a) (c5 : V3 10 5 = V1 10 5) (c1 : V3 11 = V1 11) (hc : ∀ k, k < 7 ∨ (23 ≤ k ∧ k < 1425) → A3 k = A1 k) (t : Tr V3 10 (A1 0) A3) : KS V3 A3 ∧ Ls A3 := by
  obtain ⟨⟨n1, n2, n3, n4⟩, s⟩ := h
  have z0 : A3 0 = A1 0 := hc 0 (by omega)
  refine ⟨⟨⟨?_, by omega, fun k k0 k1 => ?_, by rw [z0]; exact t⟩, ?_⟩, fun i i0 i1 => ?_⟩
  · rw [z0]; exact c5.trans n1
  · rw [z0] at k1
    rw [hc (23 + k) (by omega), hc (29 + k) (by omega), show (10 : Nat) + 1 = 11 from rfl, c1]
    exact n3 k k0 k1
  · have v9 : V3 9 = V1 9 := hv 9 (by decide) (by decide) (by decide)
    exact Sts_cur s (by rw [v9]) (by rw [v9]) (fun a a0 a1 => hv a (by omega) (by omega) (by omega)) z0 (hc 3 (by omega)) (fun k k0 k1 => hc k (by omega)) (fun k k0 k1 => hc k (by omega)) l
  · have z3 : A3 3 = A1 3 := hc 3 (by omega)
    have q := s.2.1
    rw [z0, ← l i i0 (by omega)]
    unfold snp
    rw [if_pos rfl, if_pos rfl]
    exact hc _ (by omega)
theorem Mid.turn (m : Mid V0 V A) (o : ∀ a k, ¬ (30 ≤ a ∧ a < 210) → ¬ (a = 9 ∧ (k = 9 ∨ k = 10)) → V1 a k = V a k) (h : KS V1 (keepA A)) (l : Ls (keepA A)) (hv : ∀ a k, scr a k = false → ¬ (10 ≤ a ∧ a < 16) → V3 a k = V1 a k) (c5 : V3 10 5 = V1 10 5) (c1 : V3 11 = V1 11) (hc : ∀ k, k < 7 ∨ (23 ≤ k ∧ k < 1425) → A3 k = keepA A k) (t : Tr V3 10 (A 0) A3) : Mid V0 V3 A3 ∧ Ls A3 := by
  have s2 := m.2.1.2.2.1
  obtain ⟨a1, a2⟩ := KS_turn h l (fun a h1 h2 h3 => funext fun k => hv a k (scr_F (by omega)) h3) c5 c1 hc (by rw [keepA_o s2 (by omega) (by omega)]; exact t)
  refine ⟨⟨fun a k s h1 h2 h3 => ?_, a1, fun k hk => ?_, ?_⟩, a2⟩
  · rw [hv a k s h1, o a k h2 h3]; exact m.1 a k s h1 h2 h3
  · rw [hc k (by omega), keepA_o s2 (by omega) (by omega)]; exact m.2.2.1 k hk
  · rw [hc 0 (by omega), keepA_o s2 (by omega) (by omega)]; exact m.2.2.2
end
