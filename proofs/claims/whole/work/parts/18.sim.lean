/-! ONE STEP: from what the abstract machine does to the goal at its instruction -/
theorem ivk_gen {cal : Nat → List Value → Mem → Rs} {rk : Nat → List Value → Nat} {r M y z : Nat} {S : List Value} {h : Mem} {nx : List Value → Mem → Rs} (h9 : z ≠ 9) (h10 : z ≠ 10) (h11 : z ≠ 11) : ivk cal rk r M y z S h nx = grd (Nat.ble (catS (S.drop y)) 8 && Nat.blt (rk M (S.take y).reverse) r) (bnd z (cal M (S.take y).reverse h) nx (S.drop y)) := by
  unfold ivk
  split
  · exact absurd rfl h9
  · exact absurd rfl h10
  · exact absurd rfl h11
  · exact absurd rfl h9
  · exact absurd rfl h10
  · exact absurd rfl h11
  · rfl
theorem fvu_I {φ : Nat → Nat} {h : Mem} {u y c : Nat} {a : Int32} (ht : tyF u y = .int) (_ : 8 ≤ c) (j : Nat) : updV (fv φ h c u) y (cv φ (.int a)) j = fv φ (wI h c (upd (mI h c) y a)) c u j := by
  have e : mI (wI h c (upd (mI h c) y a)) c = upd (mI h c) y a := va_up_s _ _ _
  unfold updV fv
  rw [e]
  by_cases q : j = y
  · subst q
    rw [if_pos rfl, ht]
    show _ = Value.int (upd (mI h c) j a j)
    rw [show upd (mI h c) j a j = a from if_pos rfl]
    rfl
  · rw [if_neg q, show upd (mI h c) y a j = mI h c j from if_neg q]
    rfl
theorem fvu_Z {φ : Nat → Nat} {h : Mem} {u y c : Nat} {a : Int32} (ht : tyF u y = .boolean) (_ : 8 ≤ c) (j : Nat) : updV (fv φ h c u) y (cv φ (.int a)) j = fv φ (wI h c (upd (mI h c) y a)) c u j := by
  have e : mI (wI h c (upd (mI h c) y a)) c = upd (mI h c) y a := va_up_s _ _ _
  unfold updV fv
  rw [e]
  by_cases q : j = y
  · subst q
    rw [if_pos rfl, ht]
    show _ = Value.int (upd (mI h c) j a j)
    rw [show upd (mI h c) j a j = a from if_pos rfl]
    rfl
  · rw [if_neg q, show upd (mI h c) y a j = mI h c j from if_neg q]
    rfl
theorem fvu_J {φ : Nat → Nat} {h : Mem} {u y c : Nat} {a : Int64} (ht : tyF u y = .long) (_ : 8 ≤ c) (j : Nat) : updV (fv φ h c u) y (cv φ (.long a)) j = fv φ (wJ h c (vp_updL (mJ h c) y a)) c u j := by
  have e : mJ (wJ h c (vp_updL (mJ h c) y a)) c = vp_updL (mJ h c) y a := va_up_s _ _ _
  unfold updV fv
  rw [e]
  by_cases q : j = y
  · subst q
    rw [if_pos rfl, ht]
    show _ = Value.long (vp_updL (mJ h c) j a j)
    rw [show vp_updL (mJ h c) j a j = a from if_pos rfl]
    rfl
  · rw [if_neg q, show vp_updL (mJ h c) y a j = mJ h c j from if_neg q]
    rfl
theorem fvu_R {φ : Nat → Nat} {h : Mem} {u y c : Nat} {a : Nat} (ht : (∃ n, tyF u y = .object n) ∨ ∃ t, tyF u y = .array t) (_ : 8 ≤ c) (j : Nat) : updV (fv φ h c u) y (cv φ (.ref a)) j = fv φ (wR h c (va_up (mR h c) y a)) c u j := by
  have e : mR (wR h c (va_up (mR h c) y a)) c = va_up (mR h c) y a := va_up_s _ _ _
  unfold updV fv
  rw [e]
  by_cases q : j = y
  · subst q
    rw [if_pos rfl]
    have : va_up (mR h c) j a j = a := va_up_s _ _ _
    rw [this]
    rcases ht with ⟨n, ht⟩ | ⟨n, ht⟩ <;> rw [ht] <;> rfl
  · rw [if_neg q, va_up_o _ _ _ _ q]
    rfl
section
variable {w : WX} {x : FX} {M pc : Nat} {Lc S : List Value} {h : Mem}
theorem g_ts (C : Ctx w x M) {d lo hi : Int} {offs : Array Int} {sw : List (Int32 × Nat)} {u len : Nat} {a : Int32} (hq : tsOk pc u d lo hi offs sw) (hd : decode (bM M) pc = .ok (.tableswitch d lo hi offs, len)) (k : GW w x M (swT sw u a) Lc S h) : GW w x M pc Lc (.int a :: S) h := by
  obtain ⟨q1, q2, q3, q4, q5⟩ := hq
  intro H locs ls hW hS hL
  by_cases hin : a.toInt < lo ∨ hi < a.toInt
  · have e : swT sw u a = u := swT_out sw u a fun q hq e => by
      have := q2 q hq
      rw [e] at this
      omega
    rw [e] at k
    exact lv_tableOut C.1 C.2.1 hd hin q1 (k H locs ls hW hS hL)
  · have h1 : ¬ a.toInt < lo := fun q => hin (Or.inl q)
    have h2 : ¬ hi < a.toInt := fun q => hin (Or.inr q)
    have hi' : (a.toInt - lo).toNat < offs.size := by omega
    have ht := q5 _ hi'
    have ea : Int32.ofInt (lo + ((a.toInt - lo).toNat : Nat)) = a := by
      rw [show lo + ((a.toInt - lo).toNat : Int) = a.toInt by omega]
      exact Int32.ofInt_toInt a
    rw [ea] at ht
    refine lv_tableIn C.1 C.2.1 hd h1 h2 (off := offs.getD (a.toInt - lo).toNat 0) ?_ ht (k H locs ls hW hS hL)
    rw [Array.getElem?_eq_getElem hi']
    rw [Array.getD_eq_getD_getElem?, Array.getElem?_eq_getElem hi']
    rfl
theorem g_ls (C : Ctx w x M) {d : Int} {ps : Array (Int × Int)} {sw : List (Int32 × Nat)} {u len : Nat} {a : Int32} (hq : lsOk pc u d ps.toList sw) (hd : decode (bM M) pc = .ok (.lookupswitch d ps, len)) (k : GW w x M (swT sw u a) Lc S h) : GW w x M pc Lc (.int a :: S) h := by
  obtain ⟨q1, q2, q3, q4⟩ := hq
  intro H locs ls hW hS hL
  subst q3
  exact lv_lookup C.1 C.2.1 hd q2 rfl (ls_off q1 a ps.toList q4) (k H locs ls hW hS hL)
end
theorem le_I (h : Mem) (a : Nat) (f : Nat → Int32) : le h (wI h a f) := ⟨Nat.le_refl _, Nat.le_refl _⟩
theorem le_J (h : Mem) (a : Nat) (f : Nat → Int64) : le h (wJ h a f) := ⟨Nat.le_refl _, Nat.le_refl _⟩
theorem le_R (h : Mem) (a : Nat) (f : Nat → Nat) : le h (wR h a f) := ⟨Nat.le_refl _, Nat.le_refl _⟩
theorem nn {α : Type} {y : α} (h : (none : Option α) = some y) : False := by cases h
theorem cA_0 (a : List Value) (h : Mem) : cA 0 a h = none := by
  rw [cA_rX]
  cases rcc 0 a h with
  | false => rfl
  | true =>
    show rX (rkk 0 a) 0 0 (pad (mxx 0) (lay a)) [] h = none
    rw [rX_eq (M := 0) (ops := []) (mk := []) rfl rfl _ 0]
    rfl
theorem na_ok : ∀ M ∈ idsT, allNa.getD M 0 = npar M + (if stM M = true then 0 else 1) := by decide +kernel
theorem rcc_of {M : Nat} {a : List Value} {h : Mem} {v : Value} {h' : Mem} (e : cA M a h = some (v, h')) : (lay a).length ≤ mxx M ∧ a.length = allNa.getD M 0 ∧ rcK (kdW M) a h = true := by
  rw [cA_rX] at e
  have g := (grd_some e).1
  unfold rcc at g
  split at g
  · rename_i q
    simp only [Bool.and_eq_true] at q
    exact ⟨Nat.le_of_ble_eq_true q.1, Nat.eq_of_beq_eq_true q.2, g⟩
  · cases g
theorem rcK_of {k : Nat} {a : List Value} {h : Mem} (hk : k ≠ 0) (e : rcK k a h = true) : ∃ o l, a = .ref o :: l ∧ (mS h o).1 = k := by
  cases k with
  | zero => exact absurd rfl hk
  | succ k =>
    rcases a with _ | ⟨v, l⟩
    · cases e
    · cases v with
      | ref b => exact ⟨b, l, rfl, Nat.eq_of_beq_eq_true e⟩
      | _ => cases e
section
variable {w : WX} {x : FX} {M pc : Nat} {Lc S : List Value} {h : Mem}
theorem kind_n0 {H : Heap} (hW : Wr w h H) {o k : Nat} (hk : (mS h o).1 = k) (h0 : k ≠ 0) : o ≠ 0 := by
  intro q
  subst q
  have e := (hW.2.2.2.1 0 (by decide)).1
  rw [e] at hk
  exact h0 hk.symm
/-- the answer of a call on the stack -/
theorem bnd_of {z : Nat} {r : Rs} {nx : List Value → Mem → Rs} {T : List Value} {y : Value × Mem} (φ : Nat → Nat) (e : bnd z r nx T = some y) : ∃ v h', r = some (v, h') ∧ ∃ u, (cvO φ v).toList = u.map (cv φ) ∧ nx (u ++ T) h' = some y := by
  unfold bnd at e
  split at e
  · unfold bnV at e
    split at e
    · exact ⟨_, _, rfl, [], rfl, e⟩
    · cases e
  · unfold bnI at e
    split at e
    · exact ⟨_, _, rfl, [.int _], rfl, e⟩
    · cases e
  · unfold bnJ at e
    split at e
    · exact ⟨_, _, rfl, [.long _], rfl, e⟩
    · cases e
  · unfold bnR at e
    split at e
    · exact ⟨_, _, rfl, [.ref _], rfl, e⟩
    · cases e
def CalI (w : WX) (l : Launch) (r : Nat) : Prop := ∀ M' a h1 v h1', rkk M' a < r → M' ∈ idsT → cA M' a h1 = some (v, h1') → MetM w l M' a h1 v h1'
theorem rev_td (S : List Value) (y : Nat) : S = ((S.take y).reverse).reverse ++ S.drop y := by rw [List.reverse_reverse, List.take_append_drop]
theorem sim_call {r : Nat} (C : Ctx w x M) (hfr : r + 1 ≤ (xRm x).frames ∧ 64 * (r + 1) ≤ (xRm x).locals) (hI : CalI w (xl x) r) {u y z : Nat} {nx : List Value → Mem → Rs} {yy : Value × Mem} (hr : mN yy.2 - xn0 x ≤ (xRm x).cells ∧ mC yy.2 - xc0 x ≤ (xRm x).slots) (h0 : xn0 x ≤ mN h ∧ xc0 x ≤ mC h) (hnx : ∀ S h', le h h' → nx S h' = some yy → le h' yy.2 ∧ GW w x M (pc + 3) Lc S h')
  (e : grd (Nat.ble (catS (S.drop y)) 8 && Nat.blt (rkk u (S.take y).reverse) r) (bnd z (cA u (S.take y).reverse h) nx (S.drop y)) = some yy) (hu : u = 0 ∨ u ∈ idsT) :
  u ∈ idsT ∧ ∃ v h', cA u (S.take y).reverse h = some (v, h') ∧ MetM w (xl x) u (S.take y).reverse h v h' ∧ catS (S.drop y) ≤ 8 ∧ (rkk u (S.take y).reverse + 1 + 1 ≤ (xRm x).frames ∧ 64 * (rkk u (S.take y).reverse + 1) + 64 ≤ (xRm x).locals) ∧ le h h' ∧ (mN h' - xn0 x ≤ (xRm x).cells ∧ mC h' - xc0 x ≤ (xRm x).slots) ∧ ∃ T', (∃ q, T' = q ++ S.drop y ∧ (cvO w.1 v).toList = q.map (cv w.1)) ∧ GW w x M (pc + 3) Lc T' h' := by
  obtain ⟨g, e⟩ := grd_some e
  simp only [Bool.and_eq_true] at g
  have hcat := Nat.le_of_ble_eq_true g.1
  have hrk := Nat.blt_eq.mp g.2
  obtain ⟨v, h', ec, q, hq, en⟩ := bnd_of w.1 e
  have hM : u ∈ idsT := by
    rcases hu with q | q
    · rw [q, cA_0] at ec; cases ec
    · exact q
  have hle := calA_mono PP KK mxx rkk rcc r _ _ _ _ _ hrk ec
  obtain ⟨hle2, kk⟩ := hnx _ _ hle en
  exact ⟨hM, v, h', ec, hI _ _ _ _ _ hrk hM ec, hcat, ⟨by omega, by omega⟩, hle, ⟨by have := hle2.1; omega, by have := hle2.2; omega⟩, _, ⟨q, rfl, hq⟩, kk⟩
set_option maxHeartbeats 4000000 in
theorem sim1 {r : Nat} (C : Ctx w x M) (hfr : r + 1 ≤ (xRm x).frames ∧ 64 * (r + 1) ≤ (xRm x).locals) (hI : CalI w (xl x) r) (o : Op) (hdec : decode (bM M) o.1 = .ok (o.2.1, o.2.2.1)) (hch : chk M o = true) {yy : Value × Mem} (hr : mN yy.2 - xn0 x ≤ (xRm x).cells ∧ mC yy.2 - xc0 x ≤ (xRm x).slots) {nx : Nx} {jp : Nat → Nx} (hnx : ∀ L S h', le h h' → nx L S h' = some yy → le h' yy.2 ∧ GW w x M (o.1 + o.2.2.1) L S h') (hjp : ∀ t L S h', le h h' → jp t L S h' = some yy → GW w x M t L S h') (h0 : xn0 x ≤ mN h ∧ xc0 x ≤ mC h) (hret : isRet o.2.1 = false) (e : stC cA rkk r o nx jp Lc S h = some yy) : GW w x M o.1 Lc S h := by
  obtain ⟨pc, i, len, u, y, z, v, sw⟩ := o
  dsimp only at hdec hnx hret ⊢
  cases i with
  | iconst n =>
    obtain ⟨rfl, rfl⟩ := of_decide_eq_true hch
    exact g_iconst C hdec (hnx _ _ _ (le_rf _) e).2
  | bipush n =>
    obtain ⟨rfl, rfl⟩ := of_decide_eq_true hch
    exact g_bipush C hdec (hnx _ _ _ (le_rf _) e).2
  | sipush n =>
    obtain ⟨rfl, rfl⟩ := of_decide_eq_true hch
    exact g_sipush C hdec (hnx _ _ _ (le_rf _) e).2
  | lconst n =>
    obtain ⟨rfl, rfl⟩ := of_decide_eq_true hch
    exact g_lconst C hdec (hnx _ _ _ (le_rf _) e).2
  | aconst_null =>
    have hl : len = 1 := of_decide_eq_true hch
    subst hl
    exact g_null C hdec (hnx _ _ _ (le_rf _) e).2
  | ldc idx =>
    have hq := of_decide_eq_true hch
    obtain ⟨rfl, hq⟩ := hq
    rcases hq with ⟨q1, q2⟩ | ⟨q1, q2⟩
    · generalize vI v = c at q1 q2
      subst q1
      exact g_ldc C q2 hdec (hnx _ _ _ (le_rf _) e).2
    · exact g_ldcS C q1 q2 hdec (hnx _ _ _ (le_rf _) e).2
  | ldc_w idx =>
    obtain ⟨rfl, q1, q2⟩ := of_decide_eq_true hch
    generalize vI v = c at q1 q2
    subst q1
    exact g_ldcw C q2 hdec (hnx _ _ _ (le_rf _) e).2
  | ldc2_w idx =>
    obtain ⟨rfl, q1, q2⟩ := of_decide_eq_true hch
    generalize vJ v = c at q1 q2
    subst q1
    exact g_ldc2 C q2 hdec (hnx _ _ _ (le_rf _) e).2
  | getstatic idx =>
    obtain ⟨rfl, hq⟩ := of_decide_eq_true hch
    rcases hq with ⟨q1, q2⟩ | ⟨q1, q2⟩ | ⟨q1, q2⟩
    · exact g_gets C q2 (Or.inl ⟨rfl, q1⟩) hdec (hnx _ _ _ (le_rf _) e).2
    · exact g_gets C q2 (Or.inr (Or.inl ⟨rfl, q1⟩)) hdec (hnx _ _ _ (le_rf _) e).2
    · exact g_gets C q2 (Or.inr (Or.inr ⟨rfl, q1⟩)) hdec (hnx _ _ _ (le_rf _) e).2
  | iload_n q =>
    obtain ⟨hi, rfl⟩ := of_decide_eq_true hch
    have e : (match nth Lc u with | .int a => nx Lc (.int a :: S) h | _ => none) = some yy := e
    generalize hv : nth Lc u = vv at e
    cases vv with
    | int a => exact g_iload_n C hi hv hdec (hnx _ _ _ (le_rf _) e).2
    | _ => exact (nn e).elim
  | istore_n q =>
    obtain ⟨hi, rfl, hn⟩ := of_decide_eq_true hch
    rcases S with _ | ⟨v1, S⟩
    · exact (nn e).elim
    cases v1 with
    | int a => exact g_istore_n C hi hn hdec (hnx _ _ _ (le_rf _) e).2
    | _ => exact (nn e).elim
  | iload q =>
    obtain ⟨hi, rfl⟩ := of_decide_eq_true hch
    subst hi
    have e : (match nth Lc q with | .int a => nx Lc (.int a :: S) h | _ => none) = some yy := e
    generalize hv : nth Lc q = vv at e
    cases vv with
    | int a => exact g_iload C hv hdec (hnx _ _ _ (le_rf _) e).2
    | _ => exact (nn e).elim
  | istore q =>
    obtain ⟨hi, rfl, hn⟩ := of_decide_eq_true hch
    subst hi
    rcases S with _ | ⟨v1, S⟩
    · exact (nn e).elim
    cases v1 with
    | int a => exact g_istore C hn hdec (hnx _ _ _ (le_rf _) e).2
    | _ => exact (nn e).elim
  | lload_n q =>
    obtain ⟨hi, rfl⟩ := of_decide_eq_true hch
    have e : (match nth Lc u with | .long a => nx Lc (.long a :: S) h | _ => none) = some yy := e
    generalize hv : nth Lc u = vv at e
    cases vv with
    | long a => exact g_lload_n C hi hv hdec (hnx _ _ _ (le_rf _) e).2
    | _ => exact (nn e).elim
  | lstore_n q =>
    obtain ⟨hi, rfl, hn⟩ := of_decide_eq_true hch
    rcases S with _ | ⟨v1, S⟩
    · exact (nn e).elim
    cases v1 with
    | long a => exact g_lstore_n C hi hn hdec (hnx _ _ _ (le_rf _) e).2
    | _ => exact (nn e).elim
  | lload q =>
    obtain ⟨hi, rfl⟩ := of_decide_eq_true hch
    subst hi
    have e : (match nth Lc q with | .long a => nx Lc (.long a :: S) h | _ => none) = some yy := e
    generalize hv : nth Lc q = vv at e
    cases vv with
    | long a => exact g_lload C hv hdec (hnx _ _ _ (le_rf _) e).2
    | _ => exact (nn e).elim
  | lstore q =>
    obtain ⟨hi, rfl, hn⟩ := of_decide_eq_true hch
    subst hi
    rcases S with _ | ⟨v1, S⟩
    · exact (nn e).elim
    cases v1 with
    | long a => exact g_lstore C hn hdec (hnx _ _ _ (le_rf _) e).2
    | _ => exact (nn e).elim
  | aload_n q =>
    obtain ⟨hi, rfl⟩ := of_decide_eq_true hch
    have e : (match nth Lc u with | .ref a => nx Lc (.ref a :: S) h | _ => none) = some yy := e
    generalize hv : nth Lc u = vv at e
    cases vv with
    | ref a => exact g_aload_n C hi hv hdec (hnx _ _ _ (le_rf _) e).2
    | _ => exact (nn e).elim
  | astore_n q =>
    obtain ⟨hi, rfl, hn⟩ := of_decide_eq_true hch
    rcases S with _ | ⟨v1, S⟩
    · exact (nn e).elim
    cases v1 with
    | ref a => exact g_astore_n C hi hn hdec (hnx _ _ _ (le_rf _) e).2
    | _ => exact (nn e).elim
  | aload q =>
    obtain ⟨hi, rfl⟩ := of_decide_eq_true hch
    subst hi
    have e : (match nth Lc q with | .ref a => nx Lc (.ref a :: S) h | _ => none) = some yy := e
    generalize hv : nth Lc q = vv at e
    cases vv with
    | ref a => exact g_aload C hv hdec (hnx _ _ _ (le_rf _) e).2
    | _ => exact (nn e).elim
  | astore q =>
    obtain ⟨hi, rfl, hn⟩ := of_decide_eq_true hch
    subst hi
    rcases S with _ | ⟨v1, S⟩
    · exact (nn e).elim
    cases v1 with
    | ref a => exact g_astore C hn hdec (hnx _ _ _ (le_rf _) e).2
    | _ => exact (nn e).elim
  | iinc k n =>
    obtain ⟨hi, rfl, rfl, hn⟩ := of_decide_eq_true hch
    subst hi
    have e : (match nth Lc k, Value.int (Int32.ofInt n) with | .int a, .int c => nx (st1 Lc k (.int (a + c))) S h | _, _ => none) = some yy := e
    generalize hv : nth Lc k = vv at e
    cases vv with
    | int a => exact g_iinc C hv hn hdec (hnx _ _ _ (le_rf _) e).2
    | _ => exact (nn e).elim
  | iadd =>
    have hl : len = 1 := of_decide_eq_true hch
    subst hl
    rcases S with _ | ⟨v1, S⟩
    · exact (nn e).elim
    cases v1 with
    | int c1 =>
      rcases S with _ | ⟨v2, S⟩
      · exact (nn e).elim
      cases v2 with
      | int c2 =>
        exact g_iadd C hdec (hnx _ _ _ (le_rf _) e).2
      | _ => exact (nn e).elim
    | _ => exact (nn e).elim
  | isub =>
    have hl : len = 1 := of_decide_eq_true hch
    subst hl
    rcases S with _ | ⟨v1, S⟩
    · exact (nn e).elim
    cases v1 with
    | int c1 =>
      rcases S with _ | ⟨v2, S⟩
      · exact (nn e).elim
      cases v2 with
      | int c2 =>
        exact g_isub C hdec (hnx _ _ _ (le_rf _) e).2
      | _ => exact (nn e).elim
    | _ => exact (nn e).elim
  | imul =>
    have hl : len = 1 := of_decide_eq_true hch
    subst hl
    rcases S with _ | ⟨v1, S⟩
    · exact (nn e).elim
    cases v1 with
    | int c1 =>
      rcases S with _ | ⟨v2, S⟩
      · exact (nn e).elim
      cases v2 with
      | int c2 =>
        exact g_imul C hdec (hnx _ _ _ (le_rf _) e).2
      | _ => exact (nn e).elim
    | _ => exact (nn e).elim
  | iand =>
    have hl : len = 1 := of_decide_eq_true hch
    subst hl
    rcases S with _ | ⟨v1, S⟩
    · exact (nn e).elim
    cases v1 with
    | int c1 =>
      rcases S with _ | ⟨v2, S⟩
      · exact (nn e).elim
      cases v2 with
      | int c2 =>
        exact g_iand C hdec (hnx _ _ _ (le_rf _) e).2
      | _ => exact (nn e).elim
    | _ => exact (nn e).elim
  | ior =>
    have hl : len = 1 := of_decide_eq_true hch
    subst hl
    rcases S with _ | ⟨v1, S⟩
    · exact (nn e).elim
    cases v1 with
    | int c1 =>
      rcases S with _ | ⟨v2, S⟩
      · exact (nn e).elim
      cases v2 with
      | int c2 =>
        exact g_ior C hdec (hnx _ _ _ (le_rf _) e).2
      | _ => exact (nn e).elim
    | _ => exact (nn e).elim
  | ixor =>
    have hl : len = 1 := of_decide_eq_true hch
    subst hl
    rcases S with _ | ⟨v1, S⟩
    · exact (nn e).elim
    cases v1 with
    | int c1 =>
      rcases S with _ | ⟨v2, S⟩
      · exact (nn e).elim
      cases v2 with
      | int c2 =>
        exact g_ixor C hdec (hnx _ _ _ (le_rf _) e).2
      | _ => exact (nn e).elim
    | _ => exact (nn e).elim
  | ishl =>
    have hl : len = 1 := of_decide_eq_true hch
    subst hl
    rcases S with _ | ⟨v1, S⟩
    · exact (nn e).elim
    cases v1 with
    | int c1 =>
      rcases S with _ | ⟨v2, S⟩
      · exact (nn e).elim
      cases v2 with
      | int c2 =>
        exact g_ishl C hdec (hnx _ _ _ (le_rf _) e).2
      | _ => exact (nn e).elim
    | _ => exact (nn e).elim
  | ishr =>
    have hl : len = 1 := of_decide_eq_true hch
    subst hl
    rcases S with _ | ⟨v1, S⟩
    · exact (nn e).elim
    cases v1 with
    | int c1 =>
      rcases S with _ | ⟨v2, S⟩
      · exact (nn e).elim
      cases v2 with
      | int c2 =>
        exact g_ishr C hdec (hnx _ _ _ (le_rf _) e).2
      | _ => exact (nn e).elim
    | _ => exact (nn e).elim
  | iushr =>
    have hl : len = 1 := of_decide_eq_true hch
    subst hl
    rcases S with _ | ⟨v1, S⟩
    · exact (nn e).elim
    cases v1 with
    | int c1 =>
      rcases S with _ | ⟨v2, S⟩
      · exact (nn e).elim
      cases v2 with
      | int c2 =>
        exact g_iushr C hdec (hnx _ _ _ (le_rf _) e).2
      | _ => exact (nn e).elim
    | _ => exact (nn e).elim
  | ladd =>
    have hl : len = 1 := of_decide_eq_true hch
    subst hl
    rcases S with _ | ⟨v1, S⟩
    · exact (nn e).elim
    cases v1 with
    | long c1 =>
      rcases S with _ | ⟨v2, S⟩
      · exact (nn e).elim
      cases v2 with
      | long c2 =>
        exact g_ladd C hdec (hnx _ _ _ (le_rf _) e).2
      | _ => exact (nn e).elim
    | _ => exact (nn e).elim
  | lsub =>
    have hl : len = 1 := of_decide_eq_true hch
    subst hl
    rcases S with _ | ⟨v1, S⟩
    · exact (nn e).elim
    cases v1 with
    | long c1 =>
      rcases S with _ | ⟨v2, S⟩
      · exact (nn e).elim
      cases v2 with
      | long c2 =>
        exact g_lsub C hdec (hnx _ _ _ (le_rf _) e).2
      | _ => exact (nn e).elim
    | _ => exact (nn e).elim
  | lmul =>
    have hl : len = 1 := of_decide_eq_true hch
    subst hl
    rcases S with _ | ⟨v1, S⟩
    · exact (nn e).elim
    cases v1 with
    | long c1 =>
      rcases S with _ | ⟨v2, S⟩
      · exact (nn e).elim
      cases v2 with
      | long c2 =>
        exact g_lmul C hdec (hnx _ _ _ (le_rf _) e).2
      | _ => exact (nn e).elim
    | _ => exact (nn e).elim
  | land =>
    have hl : len = 1 := of_decide_eq_true hch
    subst hl
    rcases S with _ | ⟨v1, S⟩
    · exact (nn e).elim
    cases v1 with
    | long c1 =>
      rcases S with _ | ⟨v2, S⟩
      · exact (nn e).elim
      cases v2 with
      | long c2 =>
        exact g_land C hdec (hnx _ _ _ (le_rf _) e).2
      | _ => exact (nn e).elim
    | _ => exact (nn e).elim
  | lor =>
    have hl : len = 1 := of_decide_eq_true hch
    subst hl
    rcases S with _ | ⟨v1, S⟩
    · exact (nn e).elim
    cases v1 with
    | long c1 =>
      rcases S with _ | ⟨v2, S⟩
      · exact (nn e).elim
      cases v2 with
      | long c2 =>
        exact g_lor C hdec (hnx _ _ _ (le_rf _) e).2
      | _ => exact (nn e).elim
    | _ => exact (nn e).elim
  | lxor =>
    have hl : len = 1 := of_decide_eq_true hch
    subst hl
    rcases S with _ | ⟨v1, S⟩
    · exact (nn e).elim
    cases v1 with
    | long c1 =>
      rcases S with _ | ⟨v2, S⟩
      · exact (nn e).elim
      cases v2 with
      | long c2 =>
        exact g_lxor C hdec (hnx _ _ _ (le_rf _) e).2
      | _ => exact (nn e).elim
    | _ => exact (nn e).elim
  | lcmp =>
    have hl : len = 1 := of_decide_eq_true hch
    subst hl
    rcases S with _ | ⟨v1, S⟩
    · exact (nn e).elim
    cases v1 with
    | long c1 =>
      rcases S with _ | ⟨v2, S⟩
      · exact (nn e).elim
      cases v2 with
      | long c2 =>
        exact g_lcmp C hdec (hnx _ _ _ (le_rf _) e).2
      | _ => exact (nn e).elim
    | _ => exact (nn e).elim
  | lshl =>
    have hl : len = 1 := of_decide_eq_true hch
    subst hl
    rcases S with _ | ⟨v1, S⟩
    · exact (nn e).elim
    cases v1 with
    | int c1 =>
      rcases S with _ | ⟨v2, S⟩
      · exact (nn e).elim
      cases v2 with
      | long c2 =>
        exact g_lshl C hdec (hnx _ _ _ (le_rf _) e).2
      | _ => exact (nn e).elim
    | _ => exact (nn e).elim
  | lshr =>
    have hl : len = 1 := of_decide_eq_true hch
    subst hl
    rcases S with _ | ⟨v1, S⟩
    · exact (nn e).elim
    cases v1 with
    | int c1 =>
      rcases S with _ | ⟨v2, S⟩
      · exact (nn e).elim
      cases v2 with
      | long c2 =>
        exact g_lshr C hdec (hnx _ _ _ (le_rf _) e).2
      | _ => exact (nn e).elim
    | _ => exact (nn e).elim
  | ineg =>
    have hl : len = 1 := of_decide_eq_true hch
    subst hl
    rcases S with _ | ⟨v1, S⟩
    · exact (nn e).elim
    cases v1 with
    | int c1 =>
      exact g_ineg C hdec (hnx _ _ _ (le_rf _) e).2
    | _ => exact (nn e).elim
  | i2l =>
    have hl : len = 1 := of_decide_eq_true hch
    subst hl
    rcases S with _ | ⟨v1, S⟩
    · exact (nn e).elim
    cases v1 with
    | int c1 =>
      exact g_i2l C hdec (hnx _ _ _ (le_rf _) e).2
    | _ => exact (nn e).elim
  | i2b =>
    have hl : len = 1 := of_decide_eq_true hch
    subst hl
    rcases S with _ | ⟨v1, S⟩
    · exact (nn e).elim
    cases v1 with
    | int c1 =>
      exact g_i2b C hdec (hnx _ _ _ (le_rf _) e).2
    | _ => exact (nn e).elim
  | i2c =>
    have hl : len = 1 := of_decide_eq_true hch
    subst hl
    rcases S with _ | ⟨v1, S⟩
    · exact (nn e).elim
    cases v1 with
    | int c1 =>
      exact g_i2c C hdec (hnx _ _ _ (le_rf _) e).2
    | _ => exact (nn e).elim
  | lneg =>
    have hl : len = 1 := of_decide_eq_true hch
    subst hl
    rcases S with _ | ⟨v1, S⟩
    · exact (nn e).elim
    cases v1 with
    | long c1 =>
      exact g_lneg C hdec (hnx _ _ _ (le_rf _) e).2
    | _ => exact (nn e).elim
  | l2i =>
    have hl : len = 1 := of_decide_eq_true hch
    subst hl
    rcases S with _ | ⟨v1, S⟩
    · exact (nn e).elim
    cases v1 with
    | long c1 =>
      exact g_l2i C hdec (hnx _ _ _ (le_rf _) e).2
    | _ => exact (nn e).elim
  | idiv =>
    have hl : len = 1 := of_decide_eq_true hch
    subst hl
    rcases S with _ | ⟨v1, S⟩
    · exact (nn e).elim
    cases v1 with
    | int c1 =>
      rcases S with _ | ⟨v2, S⟩
      · exact (nn e).elim
      cases v2 with
      | int c2 =>
        by_cases hb : c1 = 0
        · have e : (if c1 = 0 then none else nx Lc (.int (c2 / c1) :: S) h) = some yy := e
          rw [if_pos hb] at e
          exact (nn e).elim
        · have e : (if c1 = 0 then none else nx Lc (.int (c2 / c1) :: S) h) = some yy := e
          rw [if_neg hb] at e
          exact g_idiv C hb hdec (hnx _ _ _ (le_rf _) e).2
      | _ => exact (nn e).elim
    | _ => exact (nn e).elim
  | irem =>
    have hl : len = 1 := of_decide_eq_true hch
    subst hl
    rcases S with _ | ⟨v1, S⟩
    · exact (nn e).elim
    cases v1 with
    | int c1 =>
      rcases S with _ | ⟨v2, S⟩
      · exact (nn e).elim
      cases v2 with
      | int c2 =>
        by_cases hb : c1 = 0
        · have e : (if c1 = 0 then none else nx Lc (.int (c2 % c1) :: S) h) = some yy := e
          rw [if_pos hb] at e
          exact (nn e).elim
        · have e : (if c1 = 0 then none else nx Lc (.int (c2 % c1) :: S) h) = some yy := e
          rw [if_neg hb] at e
          exact g_irem C hb hdec (hnx _ _ _ (le_rf _) e).2
      | _ => exact (nn e).elim
    | _ => exact (nn e).elim
  | ldiv =>
    have hl : len = 1 := of_decide_eq_true hch
    subst hl
    rcases S with _ | ⟨v1, S⟩
    · exact (nn e).elim
    cases v1 with
    | long c1 =>
      rcases S with _ | ⟨v2, S⟩
      · exact (nn e).elim
      cases v2 with
      | long c2 =>
        by_cases hb : c1 = 0
        · have e : (if c1 = 0 then none else nx Lc (.long (c2 / c1) :: S) h) = some yy := e
          rw [if_pos hb] at e
          exact (nn e).elim
        · have e : (if c1 = 0 then none else nx Lc (.long (c2 / c1) :: S) h) = some yy := e
          rw [if_neg hb] at e
          exact g_ldiv C hb hdec (hnx _ _ _ (le_rf _) e).2
      | _ => exact (nn e).elim
    | _ => exact (nn e).elim
  | lrem =>
    have hl : len = 1 := of_decide_eq_true hch
    subst hl
    rcases S with _ | ⟨v1, S⟩
    · exact (nn e).elim
    cases v1 with
    | long c1 =>
      rcases S with _ | ⟨v2, S⟩
      · exact (nn e).elim
      cases v2 with
      | long c2 =>
        by_cases hb : c1 = 0
        · have e : (if c1 = 0 then none else nx Lc (.long (c2 % c1) :: S) h) = some yy := e
          rw [if_pos hb] at e
          exact (nn e).elim
        · have e : (if c1 = 0 then none else nx Lc (.long (c2 % c1) :: S) h) = some yy := e
          rw [if_neg hb] at e
          exact g_lrem C hb hdec (hnx _ _ _ (le_rf _) e).2
      | _ => exact (nn e).elim
    | _ => exact (nn e).elim
  | dup =>
    have hl : len = 1 := of_decide_eq_true hch
    subst hl
    rcases S with _ | ⟨v1, S⟩
    · exact (nn e).elim
    cases v1 with
    | int c1 => exact g_dupi C hdec (hnx _ _ _ (le_rf _) e).2
    | ref c1 => exact g_dupr C hdec (hnx _ _ _ (le_rf _) e).2
    | _ => exact (nn e).elim
  | pop =>
    have hl : len = 1 := of_decide_eq_true hch
    subst hl
    rcases S with _ | ⟨v1, S⟩
    · exact (nn e).elim
    cases v1 with
    | int c1 => exact g_popi C hdec (hnx _ _ _ (le_rf _) e).2
    | ref c1 => exact g_popr C hdec (hnx _ _ _ (le_rf _) e).2
    | _ => exact (nn e).elim
  | dup2 =>
    have hl : len = 1 := of_decide_eq_true hch
    subst hl
    rcases S with _ | ⟨v1, S⟩
    · exact (nn e).elim
    cases v1 with
    | long c1 => exact g_dup2l C hdec (hnx _ _ _ (le_rf _) e).2
    | int c1 =>
      rcases S with _ | ⟨v2, S⟩
      · exact (nn e).elim
      cases v2 with
      | ref c2 => exact g_dup2ir C hdec (hnx _ _ _ (le_rf _) e).2
      | int c2 => exact g_dup2ii C hdec (hnx _ _ _ (le_rf _) e).2
      | _ => exact (nn e).elim
    | _ => exact (nn e).elim
  | dup_x1 =>
    have hl : len = 1 := of_decide_eq_true hch
    subst hl
    rcases S with _ | ⟨v1, S⟩
    · exact (nn e).elim
    cases v1 with
    | int c1 =>
      rcases S with _ | ⟨v2, S⟩
      · exact (nn e).elim
      cases v2 with
      | ref c2 =>
        exact g_dupx1 C hdec (hnx _ _ _ (le_rf _) e).2
      | _ => exact (nn e).elim
    | _ => exact (nn e).elim
  | ifCond cd off =>
    obtain ⟨ht, rfl⟩ := of_decide_eq_true hch
    cases cd with
    | eq =>
      rcases S with _ | ⟨v1, S⟩
      · exact (nn e).elim
      cases v1 with
      | int c1 =>
        have e : (if c1 = 0 then jp u Lc S h else nx Lc S h) = some yy := e
        exact g_if_eq C ht hdec (fun q => hjp _ _ _ _ (le_rf _) (by rw [if_pos q] at e; exact e)) (fun q => (hnx _ _ _ (le_rf _) (by rw [if_neg q] at e; exact e)).2)
      | _ => exact (nn e).elim
    | ne =>
      rcases S with _ | ⟨v1, S⟩
      · exact (nn e).elim
      cases v1 with
      | int c1 =>
        have e : (if c1 = 0 then nx Lc S h else jp u Lc S h) = some yy := e
        exact g_if_ne C ht hdec (fun q => (hnx _ _ _ (le_rf _) (by rw [if_pos q] at e; exact e)).2) (fun q => hjp _ _ _ _ (le_rf _) (by rw [if_neg q] at e; exact e))
      | _ => exact (nn e).elim
    | lt =>
      rcases S with _ | ⟨v1, S⟩
      · exact (nn e).elim
      cases v1 with
      | int c1 =>
        have e : (if 0 ≤ c1 then nx Lc S h else jp u Lc S h) = some yy := e
        exact g_if_lt C ht hdec (fun q => (hnx _ _ _ (le_rf _) (by rw [if_pos q] at e; exact e)).2) (fun q => hjp _ _ _ _ (le_rf _) (by rw [if_neg q] at e; exact e))
      | _ => exact (nn e).elim
    | ge =>
      rcases S with _ | ⟨v1, S⟩
      · exact (nn e).elim
      cases v1 with
      | int c1 =>
        have e : (if c1 < 0 then nx Lc S h else jp u Lc S h) = some yy := e
        exact g_if_ge C ht hdec (fun q => (hnx _ _ _ (le_rf _) (by rw [if_pos q] at e; exact e)).2) (fun q => hjp _ _ _ _ (le_rf _) (by rw [if_neg q] at e; exact e))
      | _ => exact (nn e).elim
    | gt =>
      rcases S with _ | ⟨v1, S⟩
      · exact (nn e).elim
      cases v1 with
      | int c1 =>
        have e : (if c1 ≤ 0 then nx Lc S h else jp u Lc S h) = some yy := e
        exact g_if_gt C ht hdec (fun q => (hnx _ _ _ (le_rf _) (by rw [if_pos q] at e; exact e)).2) (fun q => hjp _ _ _ _ (le_rf _) (by rw [if_neg q] at e; exact e))
      | _ => exact (nn e).elim
    | le =>
      rcases S with _ | ⟨v1, S⟩
      · exact (nn e).elim
      cases v1 with
      | int c1 =>
        have e : (if 0 < c1 then nx Lc S h else jp u Lc S h) = some yy := e
        exact g_if_le C ht hdec (fun q => (hnx _ _ _ (le_rf _) (by rw [if_pos q] at e; exact e)).2) (fun q => hjp _ _ _ _ (le_rf _) (by rw [if_neg q] at e; exact e))
      | _ => exact (nn e).elim
  | if_icmp cd off =>
    obtain ⟨ht, rfl⟩ := of_decide_eq_true hch
    cases cd with
    | eq =>
      rcases S with _ | ⟨v1, S⟩
      · exact (nn e).elim
      cases v1 with
      | int c1 =>
        rcases S with _ | ⟨v2, S⟩
        · exact (nn e).elim
        cases v2 with
        | int c2 =>
          have e : (if c2 = c1 then jp u Lc S h else nx Lc S h) = some yy := e
          exact g_cmp_eq C ht hdec (fun q => hjp _ _ _ _ (le_rf _) (by rw [if_pos q] at e; exact e)) (fun q => (hnx _ _ _ (le_rf _) (by rw [if_neg q] at e; exact e)).2)
        | _ => exact (nn e).elim
      | _ => exact (nn e).elim
    | ne =>
      rcases S with _ | ⟨v1, S⟩
      · exact (nn e).elim
      cases v1 with
      | int c1 =>
        rcases S with _ | ⟨v2, S⟩
        · exact (nn e).elim
        cases v2 with
        | int c2 =>
          have e : (if c2 = c1 then nx Lc S h else jp u Lc S h) = some yy := e
          exact g_cmp_ne C ht hdec (fun q => (hnx _ _ _ (le_rf _) (by rw [if_pos q] at e; exact e)).2) (fun q => hjp _ _ _ _ (le_rf _) (by rw [if_neg q] at e; exact e))
        | _ => exact (nn e).elim
      | _ => exact (nn e).elim
    | lt =>
      rcases S with _ | ⟨v1, S⟩
      · exact (nn e).elim
      cases v1 with
      | int c1 =>
        rcases S with _ | ⟨v2, S⟩
        · exact (nn e).elim
        cases v2 with
        | int c2 =>
          have e : (if c1 ≤ c2 then nx Lc S h else jp u Lc S h) = some yy := e
          exact g_cmp_lt C ht hdec (fun q => (hnx _ _ _ (le_rf _) (by rw [if_pos q] at e; exact e)).2) (fun q => hjp _ _ _ _ (le_rf _) (by rw [if_neg q] at e; exact e))
        | _ => exact (nn e).elim
      | _ => exact (nn e).elim
    | ge =>
      rcases S with _ | ⟨v1, S⟩
      · exact (nn e).elim
      cases v1 with
      | int c1 =>
        rcases S with _ | ⟨v2, S⟩
        · exact (nn e).elim
        cases v2 with
        | int c2 =>
          have e : (if c2 < c1 then nx Lc S h else jp u Lc S h) = some yy := e
          exact g_cmp_ge C ht hdec (fun q => (hnx _ _ _ (le_rf _) (by rw [if_pos q] at e; exact e)).2) (fun q => hjp _ _ _ _ (le_rf _) (by rw [if_neg q] at e; exact e))
        | _ => exact (nn e).elim
      | _ => exact (nn e).elim
    | gt =>
      rcases S with _ | ⟨v1, S⟩
      · exact (nn e).elim
      cases v1 with
      | int c1 =>
        rcases S with _ | ⟨v2, S⟩
        · exact (nn e).elim
        cases v2 with
        | int c2 =>
          have e : (if c2 ≤ c1 then nx Lc S h else jp u Lc S h) = some yy := e
          exact g_cmp_gt C ht hdec (fun q => (hnx _ _ _ (le_rf _) (by rw [if_pos q] at e; exact e)).2) (fun q => hjp _ _ _ _ (le_rf _) (by rw [if_neg q] at e; exact e))
        | _ => exact (nn e).elim
      | _ => exact (nn e).elim
    | le =>
      rcases S with _ | ⟨v1, S⟩
      · exact (nn e).elim
      cases v1 with
      | int c1 =>
        rcases S with _ | ⟨v2, S⟩
        · exact (nn e).elim
        cases v2 with
        | int c2 =>
          have e : (if c1 < c2 then nx Lc S h else jp u Lc S h) = some yy := e
          exact g_cmp_le C ht hdec (fun q => (hnx _ _ _ (le_rf _) (by rw [if_pos q] at e; exact e)).2) (fun q => hjp _ _ _ _ (le_rf _) (by rw [if_neg q] at e; exact e))
        | _ => exact (nn e).elim
      | _ => exact (nn e).elim
  | goto off =>
    obtain ⟨ht, rfl⟩ := of_decide_eq_true hch
    exact g_goto C ht hdec (hjp _ _ _ _ (le_rf _) e)
  | ifnull off =>
    obtain ⟨ht, rfl⟩ := of_decide_eq_true hch
    rcases S with _ | ⟨v1, S⟩
    · exact (nn e).elim
    cases v1 with
    | ref c1 =>
      have e : (if c1 = 0 then jp u Lc S h else nx Lc S h) = some yy := e
      exact g_ifnull C ht hdec (fun q => hjp _ _ _ _ (le_rf _) (by rw [if_pos q] at e; exact e)) (fun q => (hnx _ _ _ (le_rf _) (by rw [if_neg q] at e; exact e)).2)
    | _ => exact (nn e).elim
  | ifnonnull off =>
    obtain ⟨ht, rfl⟩ := of_decide_eq_true hch
    rcases S with _ | ⟨v1, S⟩
    · exact (nn e).elim
    cases v1 with
    | ref c1 =>
      have e : (if c1 = 0 then nx Lc S h else jp u Lc S h) = some yy := e
      exact g_ifnonnull C ht hdec (fun q => (hnx _ _ _ (le_rf _) (by rw [if_pos q] at e; exact e)).2) (fun q => hjp _ _ _ _ (le_rf _) (by rw [if_neg q] at e; exact e))
    | _ => exact (nn e).elim
  | tableswitch d lo hi offs =>
    have hq := of_decide_eq_true hch
    rcases S with _ | ⟨v1, S⟩
    · exact (nn e).elim
    cases v1 with
    | int c1 =>
      have e : swC sw u c1 (fun t => jp t Lc S h) = some yy := e
      rw [swC_T] at e
      exact g_ts C hq hdec (hjp _ _ _ _ (le_rf _) e)
    | _ => exact (nn e).elim
  | lookupswitch d ps =>
    have hq := of_decide_eq_true hch
    rcases S with _ | ⟨v1, S⟩
    · exact (nn e).elim
    cases v1 with
    | int c1 =>
      have e : swC sw u c1 (fun t => jp t Lc S h) = some yy := e
      rw [swC_T] at e
      exact g_ls C hq hdec (hjp _ _ _ _ (le_rf _) e)
    | _ => exact (nn e).elim
  | ireturn =>
    cases hret
  | lreturn =>
    cases hret
  | areturn =>
    cases hret
  | return_ =>
    cases hret
  | getfield idx =>
    obtain ⟨rfl, hq⟩ := of_decide_eq_true hch
    rcases hq with ⟨q1, rfl, q3, q4⟩ | ⟨q1, q2, q3, q4⟩
    · rcases (show y = 0 ∨ y = 1 by omega) with rfl | rfl
      · rw [if_pos rfl] at q4; subst q4
        rcases S with _ | ⟨v1, S⟩
        · exact (nn e).elim
        cases v1 with
        | ref c1 =>
          have e : gfR h 12 0 c1 (fun w => nx Lc (.ref w :: S) h) = some yy := e
          unfold gfR at e
          split at e
          · rename_i hk
            exact g_getS C (by decide) hk q1 rfl rfl hdec (hnx _ _ _ (le_rf _) e).2
          · exact (nn e).elim
        | _ => exact (nn e).elim
      · rw [if_neg (by decide)] at q4; subst q4
        rcases S with _ | ⟨v1, S⟩
        · exact (nn e).elim
        cases v1 with
        | ref c1 =>
          have e : gfI h 12 1 c1 (fun w => nx Lc (.int w :: S) h) = some yy := e
          unfold gfI at e
          split at e
          · rename_i hk
            exact g_getS C (by decide) hk q1 rfl rfl hdec (hnx _ _ _ (le_rf _) e).2
          · exact (nn e).elim
        | _ => exact (nn e).elim
    · obtain ⟨b, q1⟩ : ∃ b, (gM M, idx, u, y, b) ∈ FL := by
        rcases q1 with q | q
        · exact ⟨_, q⟩
        · exact ⟨_, q⟩
      rcases S with _ | ⟨v1, S⟩
      · rcases z with _ | _ | _ | z <;> exact (nn e).elim
      cases v1 with
      | ref c1 =>
        have hz : z < 3 := by rw [q4]; unfold lieT; split <;> decide
        rcases (show z = 0 ∨ z = 1 ∨ z = 2 by omega) with rfl | rfl | rfl
        · have e : gfI h u y c1 (fun w => nx Lc (.int w :: S) h) = some yy := e
          unfold gfI at e
          split at e
          · rename_i hk
            exact g_getf C q2 q3 hk q1 (by unfold fv; rw [← q4]; rfl) hdec (hnx _ _ _ (le_rf _) e).2
          · exact (nn e).elim
        · have e : gfJ h u y c1 (fun w => nx Lc (.long w :: S) h) = some yy := e
          unfold gfJ at e
          split at e
          · rename_i hk
            exact g_getf C q2 q3 hk q1 (by unfold fv; rw [← q4]; rfl) hdec (hnx _ _ _ (le_rf _) e).2
          · exact (nn e).elim
        · have e : gfR h u y c1 (fun w => nx Lc (.ref w :: S) h) = some yy := e
          unfold gfR at e
          split at e
          · rename_i hk
            exact g_getf C q2 q3 hk q1 (by unfold fv; rw [← q4]; rfl) hdec (hnx _ _ _ (le_rf _) e).2
          · exact (nn e).elim
      | _ => rcases z with _ | _ | _ | z <;> exact (nn e).elim
  | putfield idx =>
    obtain ⟨rfl, q2, q3, q4, hq⟩ := of_decide_eq_true hch
    obtain ⟨b, q1, hfin⟩ : ∃ b, (gM M, idx, u, y, b) ∈ FL ∧ ((TT u y).2.2.2 = false ∨ ((yM M).name = "<init>" ∧ CN u = ON (gM M) ∧ b = false ∧ (TT u y).2.2.2 = true)) := by
      rcases hq with ⟨a1, a2, a3, a4⟩ | ⟨a1, a2 | a2⟩
      · exact ⟨_, a1, Or.inr ⟨a3, a4, rfl, a2⟩⟩
      · exact ⟨_, a2, Or.inl a1⟩
      · exact ⟨_, a2, Or.inl a1⟩
    rcases S with _ | ⟨v1, S⟩
    · rcases z with _ | _ | _ | _ | z <;> exact (nn e).elim
    have hz : (z = 0 ∧ tyF u y = .int) ∨ (z = 1 ∧ tyF u y = .long) ∨ (z = 2 ∧ ((∃ n, tyF u y = .object n) ∨ ∃ t, tyF u y = .array t)) ∨ (z = 3 ∧ tyF u y = .boolean) ∨ z = 9 := by
      rw [q4]
      cases tyF u y <;> simp [pz]
    rcases hz with ⟨rfl, ht⟩ | ⟨rfl, ht⟩ | ⟨rfl, ht⟩ | ⟨rfl, ht⟩ | rfl
    · cases v1 with
      | int c1 =>
        rcases S with _ | ⟨v2, S⟩
        · exact (nn e).elim
        cases v2 with
        | ref c2 =>
          have e : pfI h u y c2 c1 (fun h => nx Lc S h) = some yy := e
          unfold pfI at e
          split at e
          · rename_i hk
            exact g_putf C q2 q3 hk.1 q1 hfin (by rw [ht]; rfl) (by rw [ht]; rfl) (sb_I h c2 _) (fun j _ => fvu_I ht hk.2 j) hdec (hnx _ _ _ (le_I _ _ _) e).2
          · exact (nn e).elim
        | _ => exact (nn e).elim
      | _ => exact (nn e).elim
    · cases v1 with
      | long c1 =>
        rcases S with _ | ⟨v2, S⟩
        · exact (nn e).elim
        cases v2 with
        | ref c2 =>
          have e : pfJ h u y c2 c1 (fun h => nx Lc S h) = some yy := e
          unfold pfJ at e
          split at e
          · rename_i hk
            exact g_putf C q2 q3 hk.1 q1 hfin (by rw [ht]; rfl) (by rw [ht]; rfl) (sb_J h c2 _) (fun j _ => fvu_J ht hk.2 j) hdec (hnx _ _ _ (le_J _ _ _) e).2
          · exact (nn e).elim
        | _ => exact (nn e).elim
      | _ => exact (nn e).elim
    · cases v1 with
      | ref c1 =>
        rcases S with _ | ⟨v2, S⟩
        · exact (nn e).elim
        cases v2 with
        | ref c2 =>
          have e : pfR h u y c2 c1 (fun h => nx Lc S h) = some yy := e
          unfold pfR at e
          split at e
          · rename_i hk
            exact g_putf C q2 q3 hk.1 q1 hfin (by rcases ht with ⟨n, ht⟩ | ⟨n, ht⟩ <;> rw [ht] <;> cases c1 <;> rfl) (by rcases ht with ⟨n, ht⟩ | ⟨n, ht⟩ <;> rw [ht] <;> cases c1 <;> rfl) (sb_R h c2 _) (fun j _ => fvu_R ht hk.2 j) hdec (hnx _ _ _ (le_R _ _ _) e).2
          · exact (nn e).elim
        | _ => exact (nn e).elim
      | _ => exact (nn e).elim
    · cases v1 with
      | int c1 =>
        rcases S with _ | ⟨v2, S⟩
        · exact (nn e).elim
        cases v2 with
        | ref c2 =>
          have e : pfZ h u y c2 c1 (fun h => nx Lc S h) = some yy := e
          unfold pfZ at e
          split at e
          · rename_i hk
            exact g_putf C q2 q3 hk.1 q1 hfin (by rw [ht]; rcases hk.2.2 with rfl | rfl <;> rfl) (by rw [ht]; rcases hk.2.2 with rfl | rfl <;> rfl) (sb_I h c2 _) (fun j _ => fvu_Z ht hk.2.1 j) hdec (hnx _ _ _ (le_I _ _ _) e).2
          · exact (nn e).elim
        | _ => exact (nn e).elim
      | _ => exact (nn e).elim
    · exact (nn e).elim
  | new idx =>
    obtain ⟨rfl, q2, rfl, q4⟩ := of_decide_eq_true hch
    have hq := hnx _ _ _ (le_mk _ _ _) e
    exact g_new C q2 q4 h0 ⟨by have := hq.1.1; omega, by have := hq.1.2; omega⟩ hdec hq.2
  | newarray t =>
    obtain ⟨rfl, q2, q3⟩ := of_decide_eq_true hch
    rcases S with _ | ⟨v1, S⟩
    · exact (nn e).elim
    cases v1 with
    | int c1 =>
      have e : nwA h u c1 (fun a h => nx Lc (.ref a :: S) h) = some yy := e
      unfold nwA at e
      split at e
      · rename_i hk
        have hq := hnx _ _ _ (le_mk _ _ _) e
        exact g_newa C q2 q3 hk h0 ⟨by have := hq.1.1; omega, by have := hq.1.2; omega⟩ hdec hq.2
      · exact (nn e).elim
    | _ => exact (nn e).elim
  | anewarray idx =>
    obtain ⟨rfl, q2, q3⟩ := of_decide_eq_true hch
    rcases S with _ | ⟨v1, S⟩
    · exact (nn e).elim
    cases v1 with
    | int c1 =>
      have e : nwA h u c1 (fun a h => nx Lc (.ref a :: S) h) = some yy := e
      unfold nwA at e
      split at e
      · rename_i hk
        have hq := hnx _ _ _ (le_mk _ _ _) e
        exact g_anew C q2 q3 hk h0 ⟨by have := hq.1.1; omega, by have := hq.1.2; omega⟩ hdec hq.2
      · exact (nn e).elim
    | _ => exact (nn e).elim
  | arraylength =>
    have hl : len = 1 := of_decide_eq_true hch
    subst hl
    rcases S with _ | ⟨v1, S⟩
    · exact (nn e).elim
    cases v1 with
    | ref c1 =>
      have e : alN h c1 (fun n => nx Lc (.int n :: S) h) = some yy := e
      unfold alN at e
      split at e
      · rename_i hk
        exact g_alen C hk hdec (hnx _ _ _ (le_rf _) e).2
      · exact (nn e).elim
    | _ => exact (nn e).elim
  | iaload =>
    have hl : len = 1 := of_decide_eq_true hch
    subst hl
    rcases S with _ | ⟨v1, S⟩
    · exact (nn e).elim
    cases v1 with
    | int c1 =>
      rcases S with _ | ⟨v2, S⟩
      · exact (nn e).elim
      cases v2 with
      | ref c2 =>
        have e : ldI h c2 c1 (fun q => nx Lc (.int q :: S) h) = some yy := e
        unfold ldI at e
        split at e
        · rename_i hk
          exact g_iald C hk.1 hk.2 hdec (hnx _ _ _ (le_rf _) e).2
        · exact (nn e).elim
      | _ => exact (nn e).elim
    | _ => exact (nn e).elim
  | baload =>
    have hl : len = 1 := of_decide_eq_true hch
    subst hl
    rcases S with _ | ⟨v1, S⟩
    · exact (nn e).elim
    cases v1 with
    | int c1 =>
      rcases S with _ | ⟨v2, S⟩
      · exact (nn e).elim
      cases v2 with
      | ref c2 =>
        have e : ldB h c2 c1 (fun q => nx Lc (.int q :: S) h) = some yy := e
        unfold ldB at e
        split at e
        · rename_i hk
          exact g_bald C hk.1 hk.2 hdec (hnx _ _ _ (le_rf _) e).2
        · exact (nn e).elim
      | _ => exact (nn e).elim
    | _ => exact (nn e).elim
  | laload =>
    have hl : len = 1 := of_decide_eq_true hch
    subst hl
    rcases S with _ | ⟨v1, S⟩
    · exact (nn e).elim
    cases v1 with
    | int c1 =>
      rcases S with _ | ⟨v2, S⟩
      · exact (nn e).elim
      cases v2 with
      | ref c2 =>
        have e : ldJ h c2 c1 (fun q => nx Lc (.long q :: S) h) = some yy := e
        unfold ldJ at e
        split at e
        · rename_i hk
          exact g_lald C hk.1 hk.2 hdec (hnx _ _ _ (le_rf _) e).2
        · exact (nn e).elim
      | _ => exact (nn e).elim
    | _ => exact (nn e).elim
  | aaload =>
    have hl : len = 1 := of_decide_eq_true hch
    subst hl
    rcases S with _ | ⟨v1, S⟩
    · exact (nn e).elim
    cases v1 with
    | int c1 =>
      rcases S with _ | ⟨v2, S⟩
      · exact (nn e).elim
      cases v2 with
      | ref c2 =>
        have e : ldR h c2 c1 (fun q => nx Lc (.ref q :: S) h) = some yy := e
        unfold ldR at e
        split at e
        · rename_i hk
          exact g_aald C hk.1 hk.2 hdec (hnx _ _ _ (le_rf _) e).2
        · exact (nn e).elim
      | _ => exact (nn e).elim
    | _ => exact (nn e).elim
  | iastore =>
    have hl : len = 1 := of_decide_eq_true hch
    subst hl
    rcases S with _ | ⟨v1, S⟩
    · exact (nn e).elim
    cases v1 with
    | int c1 =>
      rcases S with _ | ⟨v2, S⟩
      · exact (nn e).elim
      cases v2 with
      | int c2 =>
        rcases S with _ | ⟨v3, S⟩
        · exact (nn e).elim
        cases v3 with
        | ref c3 =>
          have e : stI h c3 c2 c1 (fun h => nx Lc S h) = some yy := e
          unfold stI at e
          split at e
          · rename_i hk
            exact g_iast C hk.1 hk.2 hdec (hnx _ _ _ (le_I _ _ _) e).2
          · exact (nn e).elim
        | _ => exact (nn e).elim
      | _ => exact (nn e).elim
    | _ => exact (nn e).elim
  | bastore =>
    have hl : len = 1 := of_decide_eq_true hch
    subst hl
    rcases S with _ | ⟨v1, S⟩
    · exact (nn e).elim
    cases v1 with
    | int c1 =>
      rcases S with _ | ⟨v2, S⟩
      · exact (nn e).elim
      cases v2 with
      | int c2 =>
        rcases S with _ | ⟨v3, S⟩
        · exact (nn e).elim
        cases v3 with
        | ref c3 =>
          have e : stB h c3 c2 c1 (fun h => nx Lc S h) = some yy := e
          unfold stB at e
          split at e
          · rename_i hk
            exact g_zast C hk.1 hk.2.1 hk.2.2 hdec (hnx _ _ _ (le_I _ _ _) e).2
          · exact (nn e).elim
        | _ => exact (nn e).elim
      | _ => exact (nn e).elim
    | _ => exact (nn e).elim
  | lastore =>
    have hl : len = 1 := of_decide_eq_true hch
    subst hl
    rcases S with _ | ⟨v1, S⟩
    · exact (nn e).elim
    cases v1 with
    | long c1 =>
      rcases S with _ | ⟨v2, S⟩
      · exact (nn e).elim
      cases v2 with
      | int c2 =>
        rcases S with _ | ⟨v3, S⟩
        · exact (nn e).elim
        cases v3 with
        | ref c3 =>
          have e : stJ h c3 c2 c1 (fun h => nx Lc S h) = some yy := e
          unfold stJ at e
          split at e
          · rename_i hk
            exact g_last C hk.1 hk.2 hdec (hnx _ _ _ (le_J _ _ _) e).2
          · exact (nn e).elim
        | _ => exact (nn e).elim
      | _ => exact (nn e).elim
    | _ => exact (nn e).elim
  | aastore =>
    have hl : len = 1 := of_decide_eq_true hch
    subst hl
    rcases S with _ | ⟨v1, S⟩
    · exact (nn e).elim
    cases v1 with
    | ref c1 =>
      rcases S with _ | ⟨v2, S⟩
      · exact (nn e).elim
      cases v2 with
      | int c2 =>
        rcases S with _ | ⟨v3, S⟩
        · exact (nn e).elim
        cases v3 with
        | ref c3 =>
          have e : stR h c3 c2 c1 (fun h => nx Lc S h) = some yy := e
          unfold stR at e
          split at e
          · rename_i hk
            exact g_aast C hk.1 hk.2.2.1 hk.2.2.2 hdec (hnx _ _ _ (le_R _ _ _) e).2
          · exact (nn e).elim
        | _ => exact (nn e).elim
      | _ => exact (nn e).elim
    | _ => exact (nn e).elim
  | checkcast idx =>
    obtain ⟨rfl, q2⟩ := of_decide_eq_true hch
    rcases S with _ | ⟨v1, S⟩
    · exact (nn e).elim
    cases v1 with
    | ref c1 =>
      have e : grd (Nat.beq (mS h c1).1 1 && Nat.ble 8 c1) (nx Lc (.ref c1 :: S) h) = some yy := e
      obtain ⟨g, e⟩ := grd_some e
      simp only [Bool.and_eq_true] at g
      exact g_cast C q2 (Nat.eq_of_beq_eq_true g.1) hdec (hnx _ _ _ (le_rf _) e).2
    | _ => exact (nn e).elim
  | invokestatic idx =>
    obtain ⟨rfl, hq⟩ := of_decide_eq_true hch
    rcases hq with ⟨rfl, q2⟩ | ⟨q1, q2⟩
    · rcases S with _ | ⟨v1, _ | ⟨v2, _ | ⟨v3, _ | ⟨v4, _ | ⟨v5, S⟩⟩⟩⟩⟩
      · exact (nn e).elim
      · cases v1 <;> exact (nn e).elim
      · cases v1 <;> first | exact (nn e).elim | (cases v2 <;> exact (nn e).elim)
      · cases v1 <;> first | exact (nn e).elim | (cases v2 <;> first | exact (nn e).elim | (cases v3 <;> exact (nn e).elim))
      · cases v1 <;> first | exact (nn e).elim | (cases v2 <;> first | exact (nn e).elim | (cases v3 <;> first | exact (nn e).elim | (cases v4 <;> exact (nn e).elim)))
      cases v1 with
      | int c1 =>
        cases v2 with
        | int c2 =>
          cases v3 with
          | ref c3 =>
            cases v4 with
            | int c4 =>
              cases v5 with
              | ref c5 =>
                have e : grd (Nat.ble (catS S) 8) (acI h c5 c3 c4 c2 c1 (fun h => nx Lc S h)) = some yy := e
                obtain ⟨g, e⟩ := grd_some e
                unfold acI at e
                split at e
                · rename_i hk
                  exact g_acopy C q2 hk.1 hk.2.1 (Nat.le_of_ble_eq_true g) ⟨by omega, by omega⟩ hk.2.2.2.2.2.1 hk.2.2.2.2.2.2.1 hk.2.2.2.2.2.2.2.1 hk.2.2.2.2.2.2.2.2.1 hk.2.2.2.2.2.2.2.2.2 hdec (hnx _ _ _ (le_I _ _ _) e).2
                · exact (nn e).elim
              | _ => exact (nn e).elim
            | _ => exact (nn e).elim
          | _ => exact (nn e).elim
        | _ => exact (nn e).elim
      | _ => exact (nn e).elim
    · have e : grd (Nat.ble (catS (S.drop y)) 8 && Nat.blt (rkk u (S.take y).reverse) r) (bnd z (cA u (S.take y).reverse h) (fun S h => nx Lc S h) (S.drop y)) = some yy := by
        have hz : z ≠ 9 ∧ z ≠ 10 ∧ z ≠ 11 := ⟨by omega, by omega, by omega⟩
        have e2 : ivk cA rkk r u y z S h (fun S h => nx Lc S h) = some yy := e
        rw [ivk_gen hz.1 hz.2.1 hz.2.2] at e2
        exact e2
      obtain ⟨hM, v1, h1, ec, hMet, hcat, hrk, hle, hr1, T1, hT, kk⟩ := sim_call C hfr hI hr h0 (fun S h' ql q => hnx _ _ _ ql q) e (q2.imp id fun q => q.1)
      obtain ⟨-, hst, hml⟩ := q2.resolve_left (fun q => by subst q; rw [cA_0] at ec; cases ec)
      obtain ⟨-, hna, -⟩ := rcc_of ec
      rw [na_ok u hM, if_pos hst, Nat.add_zero] at hna
      rw [rev_td S y]
      rcases hml with hml | hml
      · exact g_stat C hM hst hrk hml hna hcat hle h0 hr1 hMet hT hdec kk
      · exact g_stat C hM hst hrk hml hna hcat hle h0 hr1 hMet hT hdec kk
  | invokevirtual idx =>
    obtain ⟨rfl, hq⟩ := of_decide_eq_true hch
    rcases hq with ⟨rfl, q2⟩ | ⟨q1, q2⟩
    · rcases S with _ | ⟨v1, S⟩
      · exact (nn e).elim
      cases v1 with
      | ref c1 =>
        have e : grd (Nat.ble (catS S) 8) (clI h c1 (fun q h => nx Lc (.ref q :: S) h)) = some yy := e
        obtain ⟨g, e⟩ := grd_some e
        unfold clI at e
        split at e
        · rename_i hk
          have hq := hnx _ _ _ (show le h (wI (mk h 1 (mS h c1).2) (mN h) (mI h c1)) from le_mk h 1 (mS h c1).2) e
          exact g_clone C q2 hk.1 (Nat.le_of_ble_eq_true g) ⟨by omega, by omega⟩ h0 ⟨by have : mN h + 1 ≤ mN yy.2 := hq.1.1; omega, by have : mC h + (mS h c1).2 ≤ mC yy.2 := hq.1.2; omega⟩ hdec hq.2
        · exact (nn e).elim
      | _ => exact (nn e).elim
    · have e : grd (Nat.ble (catS (S.drop y)) 8 && Nat.blt (rkk u (S.take y).reverse) r) (bnd z (cA u (S.take y).reverse h) (fun S h => nx Lc S h) (S.drop y)) = some yy := by
        have hz : z ≠ 9 ∧ z ≠ 10 ∧ z ≠ 11 := ⟨by omega, by omega, by omega⟩
        have e2 : ivk cA rkk r u y z S h (fun S h => nx Lc S h) = some yy := e
        rw [ivk_gen hz.1 hz.2.1 hz.2.2] at e2
        exact e2
      obtain ⟨hM, v1, h1, ec, hMet, hcat, hrk, hle, hr1, T1, hT, kk⟩ := sim_call C hfr hI hr h0 (fun S h' ql q => hnx _ _ _ ql q) e (q2.imp id fun q => (kd_ok _ q.1).1)
      obtain ⟨hV, hml⟩ := q2.resolve_left (fun q => by subst q; rw [cA_0] at ec; cases ec)
      obtain ⟨-, hst, hkd⟩ := kd_ok _ hV
      obtain ⟨-, hna, hrc⟩ := rcc_of ec
      have hk0 : kdW u ≠ 0 := by omega
      obtain ⟨ob, al, ha, hk⟩ := rcK_of hk0 hrc
      rw [na_ok u hM, if_neg (by rw [hst]; decide)] at hna
      rw [rev_td S y, ha, List.reverse_cons, List.append_assoc]
      rw [ha] at hMet hna hrk
      have hna : al.length = npar u := Nat.succ.inj hna
      rcases hml with hml | hml
      · exact g_virt C hV hk hrk hml hna hcat hle h0 hr1 hMet hT hdec kk
      · exact g_virt C hV hk hrk hml hna hcat hle h0 hr1 hMet hT hdec kk
  | invokespecial idx =>
    obtain ⟨rfl, hq⟩ := of_decide_eq_true hch
    rcases hq with ⟨rfl, q2⟩ | ⟨q1, q2⟩
    · rcases S with _ | ⟨v1, S⟩
      · exact (nn e).elim
      cases v1 with
      | ref c1 =>
        have e : grd (Nat.ble (catS S) 8 && Nat.blt 0 c1) (nx Lc S h) = some yy := e
        obtain ⟨g, e⟩ := grd_some e
        simp only [Bool.and_eq_true] at g
        have hc : 0 < c1 := Nat.blt_eq.mp g.2
        exact g_obj C q2 (Nat.ne_of_gt hc) (Nat.le_of_ble_eq_true g.1) ⟨by omega, by omega⟩ hdec (hnx _ _ _ (le_rf _) e).2
      | _ => exact (nn e).elim
    · have e : grd (Nat.ble (catS (S.drop y)) 8 && Nat.blt (rkk u (S.take y).reverse) r) (bnd z (cA u (S.take y).reverse h) (fun S h => nx Lc S h) (S.drop y)) = some yy := by
        have hz : z ≠ 9 ∧ z ≠ 10 ∧ z ≠ 11 := ⟨by omega, by omega, by omega⟩
        have e2 : ivk cA rkk r u y z S h (fun S h => nx Lc S h) = some yy := e
        rw [ivk_gen hz.1 hz.2.1 hz.2.2] at e2
        exact e2
      obtain ⟨hM, v1, h1, ec, hMet, hcat, hrk, hle, hr1, T1, hT, kk⟩ := sim_call C hfr hI hr h0 (fun S h' ql q => hnx _ _ _ ql q) e (q2.imp id fun q => q.1)
      obtain ⟨-, hst, hnm, hrt, hk1, hk2, hml⟩ := q2.resolve_left (fun q => by subst q; rw [cA_0] at ec; cases ec)
      obtain ⟨-, hna, hrc⟩ := rcc_of ec
      have hk0 : kdW u ≠ 0 := by omega
      obtain ⟨ob, al, ha, hk⟩ := rcK_of hk0 hrc
      rw [na_ok u hM, if_neg (by rw [hst]; decide)] at hna
      rw [rev_td S y, ha, List.reverse_cons, List.append_assoc]
      rw [ha] at hMet hna hrk
      have hna : al.length = npar u := Nat.succ.inj hna
      intro H locs ls hW hS hL
      have ho := kind_n0 hW hk hk0
      rcases hml with hml | hml
      · exact g_spec C hM hst hnm hrt ho hrk hml hna hcat hle h0 hr1 hMet hT hdec kk H locs ls hW hS hL
      · exact g_spec C hM hst hnm hrt ho hrk hml hna hcat hle h0 hr1 hMet hT hdec kk H locs ls hW hS hL
  | _ => exact (nn e).elim
end
