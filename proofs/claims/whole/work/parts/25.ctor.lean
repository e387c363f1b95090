/-! constructors: memories told by lists of rows (kind, length, references, ints) -/
abbrev TE : Type := Nat × Nat × (Nat → Nat) × (Nat → Int32)
abbrev TS : Type := List TE × Nat
def bl (k n : Nat) : TE := (k, n, fun _ => 0, fun _ => 0)
def tG (T : TS) (a : Nat) : TE := T.1.getD (a - 8) (bl 0 0)
def tN (T : TS) : Nat := 8 + T.1.length
def tA (T : TS) (k n : Nat) : TS := (T.1 ++ [bl k n], T.2 + n)
def tU (T : TS) (a : Nat) (e : TE) : TS := (T.1.set (a - 8) e, T.2)
def tPR (T : TS) (ci j a x : Nat) : Option TS := if (tG T a).1 = 16 + ci ∧ 8 ≤ a ∧ a < tN T then some (tU T a ((tG T a).1, (tG T a).2.1, va_up (tG T a).2.2.1 j x, (tG T a).2.2.2)) else none
def tPI (T : TS) (ci j a : Nat) (x : Int32) : Option TS := if (tG T a).1 = 16 + ci ∧ 8 ≤ a ∧ a < tN T then some (tU T a ((tG T a).1, (tG T a).2.1, (tG T a).2.2.1, upd (tG T a).2.2.2 j x)) else none
def Rep (b h : Mem) (T : TS) : Prop := mN h = tN T ∧ mC h = T.2 ∧ (∀ a, a < 8 → mS h a = mS b a ∧ mR h a = mR b a ∧ mI h a = mI b a) ∧ ∀ a, 8 ≤ a → a < tN T → mS h a = ((tG T a).1, (tG T a).2.1) ∧ mR h a = (tG T a).2.2.1 ∧ mI h a = (tG T a).2.2.2
theorem Rep.N {b h : Mem} {T : TS} (r : Rep b h T) : mN h = tN T := r.1
theorem rep_mk {b h : Mem} {T : TS} (r : Rep b h T) (k n : Nat) : Rep b (mk h k n) (tA T k n) := by
  have e : tN (tA T k n) = tN T + 1 := by
    show 8 + (T.1 ++ [bl k n]).length = _
    rw [List.length_append]
    rfl
  refine ⟨?_, ?_, fun a ha => ?_, fun a h8 ha => ?_⟩
  · rw [e, ← r.1]; rfl
  · show mC h + n = T.2 + n
    rw [r.2.1]
  · have : a ≠ mN h := by rw [r.1]; unfold tN; omega
    obtain ⟨x, y, z⟩ := r.2.2.1 a ha
    exact ⟨(va_up_o _ _ _ _ this).trans x, (va_up_o _ _ _ _ this).trans y, (va_up_o _ _ _ _ this).trans z⟩
  · by_cases q : a = mN h
    · have g : tG (tA T k n) a = bl k n := by
        show (T.1 ++ [bl k n]).getD (a - 8) _ = _
        rw [q, r.1]
        unfold tN
        rw [Nat.add_sub_cancel_left, List.getD_eq_getElem?_getD, List.getElem?_append_right (Nat.le_refl _), Nat.sub_self]
        rfl
      rw [g, q]
      exact ⟨va_up_s _ _ _, va_up_s _ _ _, va_up_s _ _ _⟩
    · have lt : a < tN T := by rw [e] at ha; rw [r.1] at q; omega
      have g : tG (tA T k n) a = tG T a := by
        show (T.1 ++ [bl k n]).getD (a - 8) _ = T.1.getD (a - 8) _
        rw [List.getD_eq_getElem?_getD, List.getD_eq_getElem?_getD, List.getElem?_append_left (by unfold tN at lt; omega)]
      rw [g]
      obtain ⟨x, y, z⟩ := r.2.2.2 a h8 lt
      exact ⟨(va_up_o _ _ _ _ q).trans x, (va_up_o _ _ _ _ q).trans y, (va_up_o _ _ _ _ q).trans z⟩
theorem tN_pos {T : TS} : 0 < tN T := by unfold tN; omega
theorem tN_U (T : TS) (a : Nat) (e : TE) : tN (tU T a e) = tN T := by
  show 8 + (T.1.set (a - 8) e).length = _
  rw [List.length_set]
  rfl
theorem tG_U (T : TS) (a : Nat) (e : TE) (h8 : 8 ≤ a) (ha : a < tN T) (c : Nat) (hc : 8 ≤ c) : tG (tU T a e) c = if c = a then e else tG T c := by
  show (T.1.set (a - 8) e).getD (c - 8) _ = _
  unfold tN at ha
  rw [List.getD_eq_getElem?_getD, List.getElem?_set]
  by_cases q : c = a
  · rw [if_pos q, if_pos (by rw [q]), if_pos (by omega)]; rfl
  · rw [if_neg q, if_neg (by omega)]
    show _ = T.1.getD (c - 8) _
    rw [List.getD_eq_getElem?_getD]
theorem rep_U {b h h' : Mem} {T : TS} (r : Rep b h T) {a : Nat} {e : TE} (h8 : 8 ≤ a) (ha : a < tN T) (eN : mN h' = mN h) (eC : mC h' = mC h) (eo : ∀ c, c ≠ a → mS h' c = mS h c ∧ mR h' c = mR h c ∧ mI h' c = mI h c) (es : mS h' a = (e.1, e.2.1) ∧ mR h' a = e.2.2.1 ∧ mI h' a = e.2.2.2) : Rep b h' (tU T a e) := by
  refine ⟨by rw [eN, r.1, tN_U], by rw [eC, r.2.1]; rfl, fun c hc => ?_, fun c hc1 hc2 => ?_⟩
  · obtain ⟨x, y, z⟩ := r.2.2.1 c hc
    obtain ⟨x', y', z'⟩ := eo c (by omega)
    exact ⟨x'.trans x, y'.trans y, z'.trans z⟩
  · rw [tN_U] at hc2
    rw [tG_U T a e h8 ha c hc1]
    by_cases q : c = a
    · rw [if_pos q, q]; exact es
    · rw [if_neg q]
      obtain ⟨x, y, z⟩ := r.2.2.2 c hc1 hc2
      obtain ⟨x', y', z'⟩ := eo c q
      exact ⟨x'.trans x, y'.trans y, z'.trans z⟩
def OkO (b : Mem) (r : Rs) (o : Option TS) : Prop := ∀ T', o = some T' → ∃ h', r = some (.null, h') ∧ Rep b h' T'
section
variable {b h : Mem} {T : TS}
theorem k_end (r : Rep b h T) : OkO b (some (.null, h)) (some T) := fun T' e => by cases e; exact ⟨h, rfl, r⟩
theorem k_nwA (r : Rep b h T) {k n : Nat} {i : Int32} {f : Nat → Mem → Rs} {g : Nat → TS → Option TS} (hi : i.toInt = n) (hn : n ≤ 100000) (hf : ∀ h', Rep b h' (tA T k n) → OkO b (f (tN T) h') (g (tN T) (tA T k n))) : OkO b (nwA h k i f) (g (tN T) (tA T k n)) := by
  have e : nwA h k i f = f (mN h) (mk h k i.toNatClampNeg) := if_pos (by rw [hi]; omega)
  have e2 : i.toNatClampNeg = n := by
    show i.toInt.toNat = n
    rw [hi]
    rfl
  rw [e, e2, r.1]
  exact hf _ (rep_mk r k n)
theorem k_pfR (r : Rep b h T) {ci j a x : Nat} {f : Mem → Rs} {g : TS → Option TS} (hf : ∀ h' T', Rep b h' T' → tPR T ci j a x = some T' → OkO b (f h') (g T')) : OkO b (pfR h ci j a x f) ((tPR T ci j a x).bind g) := by
  intro T' e
  by_cases q : (tG T a).1 = 16 + ci ∧ 8 ≤ a ∧ a < tN T
  · have e1 : tPR T ci j a x = some (tU T a ((tG T a).1, (tG T a).2.1, va_up (tG T a).2.2.1 j x, (tG T a).2.2.2)) := if_pos q
    obtain ⟨x1, y1, z1⟩ := r.2.2.2 a q.2.1 q.2.2
    rw [e1] at e
    have e2 : pfR h ci j a x f = f (wR h a (va_up (mR h a) j x)) := if_pos ⟨by rw [x1]; exact q.1, q.2.1⟩
    rw [e2]
    refine hf _ _ (rep_U (h' := wR h a (va_up (mR h a) j x)) (e := ((tG T a).1, (tG T a).2.1, va_up (tG T a).2.2.1 j x, (tG T a).2.2.2)) r q.2.1 q.2.2 rfl rfl (fun c hc => ⟨rfl, va_up_o _ _ _ _ hc, rfl⟩) ⟨x1, ?_, z1⟩) e1 T' e
    exact (va_up_s _ _ _).trans (by rw [y1])
  · rw [show tPR T ci j a x = none from if_neg q] at e
    cases e
theorem k_pfI (r : Rep b h T) {ci j a : Nat} {x : Int32} {f : Mem → Rs} {g : TS → Option TS} (hf : ∀ h' T', Rep b h' T' → tPI T ci j a x = some T' → OkO b (f h') (g T')) : OkO b (pfI h ci j a x f) ((tPI T ci j a x).bind g) := by
  intro T' e
  by_cases q : (tG T a).1 = 16 + ci ∧ 8 ≤ a ∧ a < tN T
  · have e1 : tPI T ci j a x = some (tU T a ((tG T a).1, (tG T a).2.1, (tG T a).2.2.1, upd (tG T a).2.2.2 j x)) := if_pos q
    obtain ⟨x1, y1, z1⟩ := r.2.2.2 a q.2.1 q.2.2
    rw [e1] at e
    have e2 : pfI h ci j a x f = f (wI h a (upd (mI h a) j x)) := if_pos ⟨by rw [x1]; exact q.1, q.2.1⟩
    rw [e2]
    refine hf _ _ (rep_U (h' := wI h a (upd (mI h a) j x)) (e := ((tG T a).1, (tG T a).2.1, (tG T a).2.2.1, upd (tG T a).2.2.2 j x)) r q.2.1 q.2.2 rfl rfl (fun c hc => ⟨rfl, rfl, va_up_o _ _ _ _ hc⟩) ⟨x1, y1, ?_⟩) e1 T' e
    exact (va_up_s _ _ _).trans (by rw [z1])
  · rw [show tPI T ci j a x = none from if_neg q] at e
    cases e
theorem k_bnV {m : Nat} {l : List Value} {F : Mem → Rs} {o : Option TS} {g : TS → Option TS} {h1 : Mem} (ho : OkO b (cA m l h1) o) (hf : ∀ h' T', Rep b h' T' → o = some T' → OkO b (F h') (g T')) : OkO b (bnV (cA m l h1) F) (o.bind g) := by
  intro T' e
  cases o with
  | none => cases e
  | some T1 =>
    obtain ⟨h', e1, r1⟩ := ho T1 rfl
    rw [e1]
    exact hf h' T1 r1 rfl T' e
theorem k_grd {x k : Nat} {r0 : Rs} {o : Option TS} (hS : (mS h x).1 = k) (hx : 0 < x) (hr : OkO b r0 o) : OkO b (grd (Nat.beq (mS h x).1 k) (grd (true && Nat.blt 0 x) r0)) o := by
  rw [hS, Nat.beq_refl, show Nat.blt 0 x = true from Nat.blt_eq.mpr hx]
  exact hr
/-- the maker of a table, on lists -/
def tTable (x : Nat) (T : TS) : Option TS :=
  (tPR (tA T 1 6) 7 0 x (tN T)).bind fun T => (tPR (tA T 1 6) 7 1 x (tN T)).bind fun T => (tPR (tA T 1 6) 7 2 x (tN T)).bind fun T => (tPR (tA T 1 6) 7 3 x (tN T)).bind fun T => (tPR (tA T 1 25) 7 4 x (tN T)).bind fun T => (tPI T 7 8 x 421).bind fun T => some T
theorem k_Table (r : Rep b h T) {x : Nat} (hx : 0 < x) (hS : (mS h x).1 = 23) : OkO b (cA m_Table_new [.ref x] h) (tTable x T) := by
  rw [q_Table_new]
  refine k_grd hS hx ?_
  refine k_nwA (g := fun a T => (tPR T 7 0 x a).bind _) r rfl (by decide) fun h r => ?_
  refine k_pfR r fun h T r _ => ?_
  refine k_nwA (g := fun a T => (tPR T 7 1 x a).bind _) r rfl (by decide) fun h r => ?_
  refine k_pfR r fun h T r _ => ?_
  refine k_nwA (g := fun a T => (tPR T 7 2 x a).bind _) r rfl (by decide) fun h r => ?_
  refine k_pfR r fun h T r _ => ?_
  refine k_nwA (g := fun a T => (tPR T 7 3 x a).bind _) r rfl (by decide) fun h r => ?_
  refine k_pfR r fun h T r _ => ?_
  refine k_nwA (g := fun a T => (tPR T 7 4 x a).bind _) r rfl (by decide) fun h r => ?_
  refine k_pfR r fun h T r _ => ?_
  refine k_pfI r fun h T r _ => ?_
  exact k_end r
end
