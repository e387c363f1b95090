/-! printed by wip/gen/emit_ctor2.py: the makers of the house, the class, the rows and the model, on lists -/
def tGR (T : TS) (ci j a : Nat) : Option Nat := if (tG T a).1 = 16 + ci ∧ 8 ≤ a ∧ a < tN T then some ((tG T a).2.2.1 j) else none
def tLN (T : TS) (a : Nat) : Option Nat := if isAr (tG T a).1 = true ∧ 8 ≤ a ∧ a < tN T then some (tG T a).2.1 else none
def tSR (T : TS) (a i x : Nat) : Option TS := if (isRA (tG T a).1 = true ∧ 8 ≤ a ∧ a < tN T) ∧ (8 ≤ x ∧ x < tN T ∧ (tG T x).1 = kc (tG T a).1) ∧ i < (tG T a).2.1 ∧ i < 2 ^ 31 then some (tU T a ((tG T a).1, (tG T a).2.1, va_up (tG T a).2.2.1 i x, (tG T a).2.2.2)) else none
def tSI (T : TS) (a i : Nat) (x : Int32) : Option TS := if ((tG T a).1 = 1 ∧ 8 ≤ a ∧ a < tN T) ∧ i < (tG T a).2.1 ∧ i < 2 ^ 31 then some (tU T a ((tG T a).1, (tG T a).2.1, (tG T a).2.2.1, upd (tG T a).2.2.2 i x)) else none
def tSF (T : TS) (a : Nat) (f : Nat → Int32) : TS := tU T a ((tG T a).1, (tG T a).2.1, (tG T a).2.2.1, f)
section
variable {b h : Mem} {T : TS}
theorem k_gfR (r : Rep b h T) {ci j a : Nat} {f : Nat → Rs} {g : Nat → Option TS} (hf : ∀ w, OkO b (f w) (g w)) : OkO b (gfR h ci j a f) ((tGR T ci j a).bind g) := by
  intro T' e
  by_cases q : (tG T a).1 = 16 + ci ∧ 8 ≤ a ∧ a < tN T
  · rw [show tGR T ci j a = some ((tG T a).2.2.1 j) from if_pos q] at e
    obtain ⟨x1, y1, z1⟩ := r.2.2.2 a q.2.1 q.2.2
    rw [show gfR h ci j a f = f (mR h a j) from if_pos (by rw [x1]; exact q.1), y1]
    exact hf _ T' e
  · rw [show tGR T ci j a = none from if_neg q] at e
    cases e
theorem k_alN (r : Rep b h T) {a : Nat} {f : Int32 → Rs} {g : Nat → Option TS} (hf : ∀ n, tLN T a = some n → OkO b (f (Int32.ofNat n)) (g n)) : OkO b (alN h a f) ((tLN T a).bind g) := by
  intro T' e
  by_cases q : isAr (tG T a).1 = true ∧ 8 ≤ a ∧ a < tN T
  · have e1 : tLN T a = some (tG T a).2.1 := if_pos q
    rw [e1] at e
    obtain ⟨x1, y1, z1⟩ := r.2.2.2 a q.2.1 q.2.2
    rw [show alN h a f = f (Int32.ofNat (mS h a).2) from if_pos (by rw [x1]; exact q.1), x1]
    exact hf _ e1 T' e
  · rw [show tLN T a = none from if_neg q] at e
    cases e
theorem k_stR (r : Rep b h T) {a i x : Nat} {f : Mem → Rs} {g : TS → Option TS} (hf : ∀ h' T', Rep b h' T' → OkO b (f h') (g T')) : OkO b (stR h a (nI i) x f) ((tSR T a i x).bind g) := by
  intro T' e
  by_cases q : (isRA (tG T a).1 = true ∧ 8 ≤ a ∧ a < tN T) ∧ (8 ≤ x ∧ x < tN T ∧ (tG T x).1 = kc (tG T a).1) ∧ i < (tG T a).2.1 ∧ i < 2 ^ 31
  · rw [show tSR T a i x = some (tU T a ((tG T a).1, (tG T a).2.1, va_up (tG T a).2.2.1 i x, (tG T a).2.2.2)) from if_pos q] at e
    obtain ⟨⟨q1, q2, q3⟩, ⟨q4, q5, q6⟩, q7, q8⟩ := q
    obtain ⟨x1, y1, z1⟩ := r.2.2.2 a q2 q3
    obtain ⟨x2, y2, z2⟩ := r.2.2.2 x q4 q5
    have e2 : stR h a (nI i) x f = f (wR h a (va_up (mR h a) (nI i).toNatClampNeg x)) := if_pos ⟨by rw [x1]; exact q1, q2, Or.inr ⟨q4, by rw [x1, x2]; exact q6⟩, by rw [nI_toInt q8]; omega, by rw [nI_toInt q8, x1]; exact Int.ofNat_lt.mpr q7⟩
    rw [e2, nI_clamp q8]
    refine hf _ _ (rep_U (h' := wR h a (va_up (mR h a) i x)) (e := ((tG T a).1, (tG T a).2.1, va_up (tG T a).2.2.1 i x, (tG T a).2.2.2)) r q2 q3 rfl rfl (fun c hc => ⟨rfl, va_up_o _ _ _ _ hc, rfl⟩) ⟨x1, ?_, z1⟩) T' e
    exact (va_up_s _ _ _).trans (by rw [y1])
  · rw [show tSR T a i x = none from if_neg q] at e
    cases e
theorem k_stI (r : Rep b h T) {a i : Nat} {x : Int32} {f : Mem → Rs} {g : TS → Option TS} (hf : ∀ h' T', Rep b h' T' → tSI T a i x = some T' → OkO b (f h') (g T')) : OkO b (stI h a (nI i) x f) ((tSI T a i x).bind g) := by
  intro T' e
  by_cases q : ((tG T a).1 = 1 ∧ 8 ≤ a ∧ a < tN T) ∧ i < (tG T a).2.1 ∧ i < 2 ^ 31
  · have e1 : tSI T a i x = some (tU T a ((tG T a).1, (tG T a).2.1, (tG T a).2.2.1, upd (tG T a).2.2.2 i x)) := if_pos q
    rw [e1] at e
    obtain ⟨⟨q1, q2, q3⟩, q7, q8⟩ := q
    obtain ⟨x1, y1, z1⟩ := r.2.2.2 a q2 q3
    have e2 : stI h a (nI i) x f = f (wI h a (upd (mI h a) (nI i).toNatClampNeg x)) := if_pos ⟨by rw [x1]; exact q1, by rw [nI_toInt q8]; omega, by rw [nI_toInt q8, x1]; exact Int.ofNat_lt.mpr q7⟩
    rw [e2, nI_clamp q8]
    refine hf _ _ (rep_U (h' := wI h a (upd (mI h a) i x)) (e := ((tG T a).1, (tG T a).2.1, (tG T a).2.2.1, upd (tG T a).2.2.2 i x)) r q2 q3 rfl rfl (fun c hc => ⟨rfl, rfl, va_up_o _ _ _ _ hc⟩) ⟨x1, y1, ?_⟩) e1 T' e
    exact (va_up_s _ _ _).trans (by rw [z1])
  · rw [show tSI T a i x = none from if_neg q] at e
    cases e
theorem k_pfZ {x : Int32} (hx : x = 0 ∨ x = 1) (r : Rep b h T) {ci j a : Nat} {f : Mem → Rs} {g : TS → Option TS} (hf : ∀ h' T', Rep b h' T' → tPI T ci j a x = some T' → OkO b (f h') (g T')) : OkO b (pfZ h ci j a x f) ((tPI T ci j a x).bind g) := by
  have e : pfZ h ci j a x f = pfI h ci j a x f := by
    unfold pfZ pfI
    by_cases q : (mS h a).1 = 16 + ci ∧ 8 ≤ a
    · rw [if_pos q, if_pos ⟨q.1, q.2, hx⟩]
    · rw [if_neg q, if_neg (fun p => q ⟨p.1, p.2.1⟩)]
  rw [e]
  exact k_pfI r hf
/-- the thirty tables of the steps -/
def tSteps (x : Nat) : Nat → Nat → TS → Option TS
  | _, 0, T => (tGR T 2 1 x).bind fun w => (tLN T w).bind fun n => if n = 30 then some T else none
  | i, k + 1, T => (tGR T 2 1 x).bind fun w => (tLN T w).bind fun n => if n = 30 then (tGR T 2 1 x).bind fun w => (tTable (tN T) (tA T 23 10)).bind fun T1 => (tSR T1 w i (tN T)).bind fun T => tSteps x (i + 1) k T else none
theorem k_ifn {n m : Nat} {r0 : Rs} {o : Option TS} (hf : n = m → OkO b r0 o) : OkO b r0 (if n = m then o else none) := by
  by_cases q : n = m
  · rw [if_pos q]; exact hf q
  · rw [if_neg q]; intro T' e; cases e
theorem k_steps {x : Nat} : ∀ (k i : Nat) (h : Mem) (T : TS), i + k = 30 → Rep b h T → OkO b (rX m_House_new m_House_new 102 [.ref x, .int (nI i)] [] h) (tSteps x i k T)
  | 0, i, h, T, hk, r => by
    rw [q_House_new_102]
    refine k_gfR r fun w => k_alN r fun n _ => k_ifn fun hn => ?_
    rw [if_neg (by rw [hn, show i = 30 by omega]; decide)]
    exact k_end r
  | k + 1, i, h, T, hk, r => by
    rw [q_House_new_102]
    refine k_gfR r fun w => k_alN r fun n _ => k_ifn fun hn => ?_
    rw [if_pos (by rw [hn]; exact nI_lt (by omega) (by decide : 30 < 2 ^ 31)), r.N]
    refine k_gfR r fun w => ?_
    refine k_bnV (k_Table (rep_mk r _ _) tN_pos (k_obj r).1) fun h1 T1 r1 _ => ?_
    refine k_stR r1 fun h T r => ?_
    rw [nI_1]
    exact k_steps k (i + 1) h T (by omega) r
def tHouse (x : Nat) (T : TS) : Option TS :=
  (tTable (tN T) (tA T 23 10)).bind fun T1 => (tPR T1 2 0 x (tN T)).bind fun T => (tPR (tA T 5 30) 2 1 x (tN T)).bind fun T => (tPR (tA T 6 4) 2 2 x (tN T)).bind fun T => (tPR (tA T 1 36) 2 3 x (tN T)).bind fun T => (tPR (tA T 1 36) 2 4 x (tN T)).bind fun T => (tPR (tA T 1 8) 2 5 x (tN T)).bind fun T => (tPairs (tN T) 6 (tA T 19 3)).bind fun T1 => (tPR T1 2 6 x (tN T)).bind fun T => (tPairs (tN T) 8 (tA T 19 3)).bind fun T1 => (tPR T1 2 7 x (tN T)).bind fun T => (tPairs (tN T) 8 (tA T 19 3)).bind fun T1 => (tPR T1 2 8 x (tN T)).bind fun T => (tPI T 2 12 x (-1)).bind fun T => tSteps x 0 30 T
set_option maxHeartbeats 1000000 in
theorem k_House (r : Rep b h T) {x : Nat} (hx : 0 < x) (hS : (mS h x).1 = 18) : OkO b (cA m_House_new [.ref x] h) (tHouse x T) := by
  rw [q_House_new]
  refine k_grd hS hx ?_
  rw [r.N]
  refine k_bnV (k_Table (rep_mk r _ _) tN_pos (k_obj r).1) fun h1 T1 r1 _ => ?_
  refine k_pfR r1 fun h T r _ => ?_
  refine k_nwA (g := fun a T => (tPR T 2 1 x a).bind _) r rfl (by decide) fun h r => ?_
  refine k_pfR r fun h T r _ => ?_
  refine k_nwA (g := fun a T => (tPR T 2 2 x a).bind _) r rfl (by decide) fun h r => ?_
  refine k_pfR r fun h T r _ => ?_
  refine k_nwA (g := fun a T => (tPR T 2 3 x a).bind _) r rfl (by decide) fun h r => ?_
  refine k_pfR r fun h T r _ => ?_
  refine k_nwA (g := fun a T => (tPR T 2 4 x a).bind _) r rfl (by decide) fun h r => ?_
  refine k_pfR r fun h T r _ => ?_
  refine k_nwA (g := fun a T => (tPR T 2 5 x a).bind _) r rfl (by decide) fun h r => ?_
  refine k_pfR r fun h T r _ => ?_
  rw [r.N]
  refine k_bnV (k_Pairs (rep_mk r _ _) rfl (by decide) (by decide) tN_pos (k_obj r).1) fun h1 T1 r1 _ => ?_
  refine k_pfR r1 fun h T r _ => ?_
  rw [r.N]
  refine k_bnV (k_Pairs (rep_mk r _ _) rfl (by decide) (by decide) tN_pos (k_obj r).1) fun h1 T1 r1 _ => ?_
  refine k_pfR r1 fun h T r _ => ?_
  rw [r.N]
  refine k_bnV (k_Pairs (rep_mk r _ _) rfl (by decide) (by decide) tN_pos (k_obj r).1) fun h1 T1 r1 _ => ?_
  refine k_pfR r1 fun h T r _ => ?_
  refine k_pfI r fun h T r _ => ?_
  exact k_steps 30 0 h T rfl r
end
