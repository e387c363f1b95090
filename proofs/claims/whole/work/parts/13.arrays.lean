/-! rows, statics, constants, switches -/
section
variable {w : WX} {x : FX} {M pc : Nat} {Lc T : List Value} {h : Mem}
theorem inv_arr {i : Int32} {k n : Nat} {f : Nat → Value} (hin : 0 ≤ i.toInt ∧ i.toInt < n) : ¬ (i < 0 ∨ (arrV k n f).slots.size ≤ i.toNatClampNeg) := by rw [arrV_size]; exact inv_of hin
theorem ext8 {H : Heap} (hW : Wr w h H) {a : Nat} (hk : (mS h a).1 = 8) : (a = 1 ∧ mS h a = (8, 23)) ∨ (a = 6 ∧ mS h a = (8, w.2.2.2.2.1)) := by
  obtain ⟨w1, w2, w3, w4, w5⟩ := hW
  rcases Nat.lt_or_ge a 8 with q | q
  · have e := (w4 a q).1
    rw [e] at hk ⊢
    rcases a with _ | _ | _ | _ | _ | _ | _ | _ | a
    · cases hk
    · exact Or.inl ⟨rfl, rfl⟩
    · cases hk
    · cases hk
    · cases hk
    · cases hk
    · exact Or.inr ⟨rfl, rfl⟩
    · cases hk
    · omega
  · exfalso
    rcases Nat.lt_or_ge a (mN h) with g | g
    · have c := w5 a q g
      unfold CR at c
      rw [if_pos (by rw [hk]; omega), hk] at c
      rcases c.1 with e | e | e | e | e <;> cases e
    · rw [w3 a g] at hk; cases hk
theorem ext9 {H : Heap} (hW : Wr w h H) {a : Nat} (hk : (mS h a).1 = 9) : (a = 4 ∧ mS h a = (9, xn2)) ∨ (a = 5 ∧ mS h a = (9, xn3)) := by
  obtain ⟨w1, w2, w3, w4, w5⟩ := hW
  rcases Nat.lt_or_ge a 8 with q | q
  · have e := (w4 a q).1
    rw [e] at hk ⊢
    rcases a with _ | _ | _ | _ | _ | _ | _ | _ | a
    · cases hk
    · cases hk
    · cases hk
    · cases hk
    · exact Or.inl ⟨rfl, rfl⟩
    · exact Or.inr ⟨rfl, rfl⟩
    · cases hk
    · cases hk
    · omega
  · exfalso
    rcases Nat.lt_or_ge a (mN h) with g | g
    · have c := w5 a q g
      unfold CR at c
      rw [if_pos (by rw [hk]; omega), hk] at c
      rcases c.1 with e | e | e | e | e <;> cases e
    · rw [w3 a g] at hk; cases hk
theorem isIA_or {k : Nat} (h : isIA k = true) : k = 1 ∨ k = 8 := by
  unfold isIA at h
  split at h
  · exact Or.inl rfl
  · exact Or.inr rfl
  · cases h
theorem isBA_or {k : Nat} (h : isBA k = true) : k = 2 ∨ k = 9 := by
  unfold isBA at h
  split at h
  · exact Or.inl rfl
  · exact Or.inr rfl
  · cases h
theorem isRA_or {k : Nat} (h : isRA k = true) : k = 5 ∨ k = 6 := by
  unfold isRA at h
  split at h
  · exact Or.inl rfl
  · exact Or.inr rfl
  · cases h
theorem isAr_or {k : Nat} (h : isAr k = true) : okA k ∨ k = 4 ∨ k = 8 ∨ k = 9 := by
  unfold okA
  unfold isAr at h
  split at h <;> first | omega | cases h
theorem g_iald (C : Ctx w x M) {a : Nat} {i : Int32} (hk : isIA (mS h a).1 = true) (hin : 0 ≤ i.toInt ∧ i.toInt < (mS h a).2) (hd : decode (bM M) pc = .ok (.iaload, 1)) (kk : GW w x M (pc + 1) Lc (.int (mI h a i.toNatClampNeg) :: T) h) : GW w x M pc Lc (.int i :: .ref a :: T) h := by
  intro H locs ls hW hS hL
  obtain ⟨c1, c2, c3, c4, c5, c6, c7, c8, c9, c10⟩ := C
  have k1 := kk H locs ls hW hS hL
  rcases isIA_or hk with e | e
  · obtain ⟨g1, g2, g3⟩ := wka hW e (Or.inl rfl)
    show Wg x H locs _ _ (F0 (xm x) pc ls (.int i :: cv w.1 (.ref a) :: T.map (cv w.1)))
    rw [cv_r g1]
    exact W.iald c1 c2 g3 ((inK c6 1 (Or.inl rfl)).1 _ _) (fun q => by cases q) (inv_arr hin) (arrV_read _ _ (ic hin)) rfl rfl hd k1
  · rcases ext8 hW e with ⟨rfl, e2⟩ | ⟨rfl, e2⟩
    · rw [e2] at hin
      have em := (hW.2.2.2.1 1 (by decide)).2.1
      rw [em] at k1
      exact va_ti c1 c2 c6.2.2.2.2.2.2.1 hS (inv_of hin) rfl hd k1
    · rw [e2] at hin
      have em := (hW.2.2.2.1 6 (by decide)).2.1
      rw [em] at k1
      exact va_ti c1 c2 c6.2.2.2.2.2.2.2.1 hS (inv_of hin) rfl hd k1
theorem g_bald (C : Ctx w x M) {a : Nat} {i : Int32} (hk : isBA (mS h a).1 = true) (hin : 0 ≤ i.toInt ∧ i.toInt < (mS h a).2) (hd : decode (bM M) pc = .ok (.baload, 1)) (kk : GW w x M (pc + 1) Lc (.int (mI h a i.toNatClampNeg) :: T) h) : GW w x M pc Lc (.int i :: .ref a :: T) h := by
  intro H locs ls hW hS hL
  obtain ⟨c1, c2, c3, c4, c5, c6, c7, c8, c9, c10⟩ := C
  have k1 := kk H locs ls hW hS hL
  rcases isBA_or hk with e | e
  · obtain ⟨g1, g2, g3⟩ := wka hW e (Or.inr (Or.inl rfl))
    show Wg x H locs _ _ (F0 (xm x) pc ls (.int i :: cv w.1 (.ref a) :: T.map (cv w.1)))
    rw [cv_r g1]
    exact va_zald c1 c2 c6.1 (ws := [(w.1 a, .inl (w.2.2.2.1 2, (mS h a).2, .inl (mI h a)))]) (fun k q hq => by
      have hz : k < 1 := (List.getElem?_eq_some_iff.mp hq).1
      rw [show k = 0 by omega] at hq
      cases hq
      exact g3) 0 1 rfl rfl (inv_of hin) hd k1
  · rcases ext9 hW e with ⟨rfl, e2⟩ | ⟨rfl, e2⟩
    · rw [e2] at hin
      have em := (hW.2.2.2.1 4 (by decide)).2.1
      rw [em] at k1
      exact va_tb c1 c2 (c6.2.2.2.2.2.1.1 0 (by decide)).2.2.2 hS (inv_of hin) rfl hd k1
    · rw [e2] at hin
      have em := (hW.2.2.2.1 5 (by decide)).2.1
      rw [em] at k1
      exact va_tb c1 c2 (c6.2.2.2.2.2.1.1 1 (by decide)).2.2.2 hS (inv_of hin) rfl hd k1
theorem g_lald (C : Ctx w x M) {a : Nat} {i : Int32} (hk : (mS h a).1 = 3) (hin : 0 ≤ i.toInt ∧ i.toInt < (mS h a).2) (hd : decode (bM M) pc = .ok (.laload, 1)) (kk : GW w x M (pc + 1) Lc (.long (mJ h a i.toNatClampNeg) :: T) h) : GW w x M pc Lc (.int i :: .ref a :: T) h := by
  intro H locs ls hW hS hL
  obtain ⟨c1, c2, c3, c4, c5, c6, c7, c8, c9, c10⟩ := C
  have k1 := kk H locs ls hW hS hL
  obtain ⟨g1, g2, g3⟩ := wka hW hk (Or.inr (Or.inr (Or.inl rfl)))
  show Wg x H locs _ _ (F0 (xm x) pc ls (.int i :: cv w.1 (.ref a) :: T.map (cv w.1)))
  rw [cv_r g1]
  exact va_lald c1 c2 c6.1 (ws := [(w.1 a, .inl (w.2.2.2.1 3, (mS h a).2, .inr (.inl (mJ h a))))]) (fun k q hq => by
    have hz : k < 1 := (List.getElem?_eq_some_iff.mp hq).1
    rw [show k = 0 by omega] at hq
    cases hq
    exact g3) 0 2 rfl rfl (inv_of hin) hd k1
theorem g_aald (C : Ctx w x M) {a : Nat} {i : Int32} (hk : isRA (mS h a).1 = true) (hin : 0 ≤ i.toInt ∧ i.toInt < (mS h a).2) (hd : decode (bM M) pc = .ok (.aaload, 1)) (kk : GW w x M (pc + 1) Lc (.ref (mR h a i.toNatClampNeg) :: T) h) : GW w x M pc Lc (.int i :: .ref a :: T) h := by
  intro H locs ls hW hS hL
  obtain ⟨c1, c2, c3, c4, c5, c6, c7, c8, c9, c10⟩ := C
  have k1 := kk H locs ls hW hS hL
  rcases isRA_or hk with e | e
  · obtain ⟨g1, g2, g3⟩ := wka hW e (Or.inr (Or.inr (Or.inr (Or.inl rfl))))
    show Wg x H locs _ _ (F0 (xm x) pc ls (.int i :: cv w.1 (.ref a) :: T.map (cv w.1)))
    rw [cv_r g1]
    exact W.aald c1 c2 g3 ((inK c6 5 (by omega)).1 _ _) rfl (fun q => by cases q) (inv_arr hin) (arrV_read _ _ (ic hin)) rfl rfl hd k1
  · obtain ⟨g1, g2, g3⟩ := wka hW e (Or.inr (Or.inr (Or.inr (Or.inr rfl))))
    show Wg x H locs _ _ (F0 (xm x) pc ls (.int i :: cv w.1 (.ref a) :: T.map (cv w.1)))
    rw [cv_r g1]
    exact W.aald c1 c2 g3 ((inK c6 6 (by omega)).1 _ _) rfl (fun q => by cases q) (inv_arr hin) (arrV_read _ _ (ic hin)) rfl rfl hd k1
theorem g_alen (C : Ctx w x M) {a : Nat} (hk : isAr (mS h a).1 = true) (hd : decode (bM M) pc = .ok (.arraylength, 1)) (kk : GW w x M (pc + 1) Lc (.int (Int32.ofNat (mS h a).2) :: T) h) : GW w x M pc Lc (.ref a :: T) h := by
  intro H locs ls hW hS hL
  obtain ⟨c1, c2, c3, c4, c5, c6, c7, c8, c9, c10⟩ := C
  have k1 := kk H locs ls hW hS hL
  rcases isAr_or hk with e | e | e | e
  · obtain ⟨g1, g2, g3⟩ := wka hW rfl e
    show Wg x H locs _ _ (F0 (xm x) pc ls (cv w.1 (.ref a) :: T.map (cv w.1)))
    rw [cv_r g1]
    exact W.alen c1 c2 g3 ((inK c6 _ e).1 _ _) (by rw [arrV_size]) rfl rfl hd k1
  · exfalso
    obtain ⟨g1, g2, g3⟩ := wk hW e (by omega) (by omega) (by omega) (by omega) (by omega)
    unfold CR at g3
    rw [if_pos (by rw [e]; omega), e] at g3
    rcases g3.1 with q | q | q | q | q <;> cases q
  · rcases ext8 hW e with ⟨rfl, e2⟩ | ⟨rfl, e2⟩
    · rw [e2] at k1
      exact va_tlen c1 c2 c6.2.2.2.2.2.2.1 hS rfl hd k1
    · rw [e2] at k1
      exact va_tlen c1 c2 c6.2.2.2.2.2.2.2.1 hS rfl hd k1
  · rcases ext9 hW e with ⟨rfl, e2⟩ | ⟨rfl, e2⟩
    · rw [e2] at k1
      exact va_tlen c1 c2 (c6.2.2.2.2.2.1.1 0 (by decide)).2.2.2 hS rfl hd k1
    · rw [e2] at k1
      exact va_tlen c1 c2 (c6.2.2.2.2.2.1.1 1 (by decide)).2.2.2 hS rfl hd k1
/-- a store into a row, whatever the row -/
theorem st_fin {H : Heap} {locs : List Loc} {ls : Array Slot} {a k : Nat} {j : Nat} {v : Value} {h' : Mem} (c10 : Wok w) (hW : Wr w h H) (hS : va_S (bs w) (xs_ x).heap H locs) (hL : LR w.1 ls (mxx M) Lc) (hk : (mS h a).1 = k) (hok : okA k) (g1 : 8 ≤ a) (g3 : H[w.1 a]? = some (arrV (w.2.2.2.1 k) (mS h a).2 (vfA w.1 h a k))) (sb : Sb h h' a) (hv : updV (vfA w.1 h a k) j v = vfA w.1 h' a k) (kk : GW w x M (pc + 1) Lc T h') : ∀ H' : Heap, H'[w.1 a]? = some ((arrV (w.2.2.2.1 k) (mS h a).2 (vfA w.1 h a k)).setSlot j v) → H'.size = H.size → (∀ q, q ≠ w.1 a → H'[q]? = H[q]?) → Wg x H' (locs ++ [⟨w.1 a, j⟩]) (mN h - xn0 x) (mC h - xc0 x) (F0 (xm x) (pc + 1) ls (T.map (cv w.1))) := by
  intro H' e1 e2 e3
  rw [← sb.2.1, ← sb.2.2.1]
  refine kk H' _ ls (WR.upd c10 hW sb g1 e2 e3 ?_) (hS.put e2 e3 (show w.2.1 ≤ w.1 a by rw [c10 a g1]; omega)) hL
  unfold CR
  rw [sb.1, if_pos (by rw [hk]; unfold okA at hok; omega), hk]
  rw [arrV_store, hv] at e1
  exact ⟨hok, e1⟩
theorem g_iast (C : Ctx w x M) {a : Nat} {i v : Int32} (hk : (mS h a).1 = 1) (hin : 0 ≤ i.toInt ∧ i.toInt < (mS h a).2) (hd : decode (bM M) pc = .ok (.iastore, 1)) (kk : GW w x M (pc + 1) Lc T (wI h a (upd (mI h a) i.toNatClampNeg v))) : GW w x M pc Lc (.int v :: .int i :: .ref a :: T) h := by
  intro H locs ls hW hS hL
  obtain ⟨c1, c2, c3, c4, c5, c6, c7, c8, c9, c10⟩ := C
  obtain ⟨g1, g2, g3⟩ := wka hW hk (Or.inl rfl)
  show Wg x H locs _ _ (F0 (xm x) pc ls (.int v :: .int i :: cv w.1 (.ref a) :: T.map (cv w.1)))
  rw [cv_r g1]
  refine W.iast c1 c2 g3 ((inK c6 1 (Or.inl rfl)).1 _ _) (fun q => by cases q) (inv_arr hin) rfl rfl hd (st_fin c10 hW hS hL hk (Or.inl rfl) g1 g3 (sb_I h a _) ?_ kk)
  funext q
  have e : mI (wI h a (upd (mI h a) i.toNatClampNeg v)) a = upd (mI h a) i.toNatClampNeg v := va_up_s _ _ _
  show updV (fun j => Value.int (mI h a j)) i.toNatClampNeg (.int v) q = .int (mI (wI h a (upd (mI h a) i.toNatClampNeg v)) a q)
  rw [e]
  unfold updV upd
  split <;> rfl
theorem g_zast (C : Ctx w x M) {a : Nat} {i v : Int32} (hk : (mS h a).1 = 2) (hv : v = 0 ∨ v = 1) (hin : 0 ≤ i.toInt ∧ i.toInt < (mS h a).2) (hd : decode (bM M) pc = .ok (.bastore, 1)) (kk : GW w x M (pc + 1) Lc T (wI h a (upd (mI h a) i.toNatClampNeg v))) : GW w x M pc Lc (.int v :: .int i :: .ref a :: T) h := by
  intro H locs ls hW hS hL
  obtain ⟨c1, c2, c3, c4, c5, c6, c7, c8, c9, c10⟩ := C
  obtain ⟨g1, g2, g3⟩ := wka hW hk (Or.inr (Or.inl rfl))
  show Wg x H locs _ _ (F0 (xm x) pc ls (.int v :: .int i :: cv w.1 (.ref a) :: T.map (cv w.1)))
  rw [cv_r g1]
  refine W.zast c1 c2 g3 ((inK c6 2 (by omega)).1 _ _) (fun q => by cases q) (inv_arr hin) rfl rfl hd (st_fin c10 hW hS hL hk (Or.inr (Or.inl rfl)) g1 g3 (sb_I h a _) ?_ kk)
  have hn : narrow .boolean (.int v) = .int v := by rcases hv with rfl | rfl <;> rfl
  rw [hn]
  funext q
  have e : mI (wI h a (upd (mI h a) i.toNatClampNeg v)) a = upd (mI h a) i.toNatClampNeg v := va_up_s _ _ _
  show updV (fun j => Value.int (mI h a j)) i.toNatClampNeg (.int v) q = .int (mI (wI h a (upd (mI h a) i.toNatClampNeg v)) a q)
  rw [e]
  unfold updV upd
  split <;> rfl
theorem g_last (C : Ctx w x M) {a : Nat} {i : Int32} {v : Int64} (hk : (mS h a).1 = 3) (hin : 0 ≤ i.toInt ∧ i.toInt < (mS h a).2) (hd : decode (bM M) pc = .ok (.lastore, 1)) (kk : GW w x M (pc + 1) Lc T (wJ h a (vp_updL (mJ h a) i.toNatClampNeg v))) : GW w x M pc Lc (.long v :: .int i :: .ref a :: T) h := by
  intro H locs ls hW hS hL
  obtain ⟨c1, c2, c3, c4, c5, c6, c7, c8, c9, c10⟩ := C
  obtain ⟨g1, g2, g3⟩ := wka hW hk (Or.inr (Or.inr (Or.inl rfl)))
  show Wg x H locs _ _ (F0 (xm x) pc ls (.long v :: .int i :: cv w.1 (.ref a) :: T.map (cv w.1)))
  rw [cv_r g1]
  refine W.last c1 c2 g3 ((inK c6 3 (by omega)).1 _ _) (fun q => by cases q) (inv_arr hin) rfl rfl hd (st_fin c10 hW hS hL hk (Or.inr (Or.inr (Or.inl rfl))) g1 g3 (sb_J h a _) ?_ kk)
  funext q
  have e : mJ (wJ h a (vp_updL (mJ h a) i.toNatClampNeg v)) a = vp_updL (mJ h a) i.toNatClampNeg v := va_up_s _ _ _
  show updV (fun j => Value.long (mJ h a j)) i.toNatClampNeg (.long v) q = .long (mJ (wJ h a (vp_updL (mJ h a) i.toNatClampNeg v)) a q)
  rw [e]
  unfold updV vp_updL
  split <;> rfl
theorem g_aast (C : Ctx w x M) {a v : Nat} {i : Int32} (hk : isRA (mS h a).1 = true) (hv : v = 0 ∨ 8 ≤ v ∧ (mS h v).1 = kc (mS h a).1) (hin : 0 ≤ i.toInt ∧ i.toInt < (mS h a).2) (hd : decode (bM M) pc = .ok (.aastore, 1)) (kk : GW w x M (pc + 1) Lc T (wR h a (va_up (mR h a) i.toNatClampNeg v))) : GW w x M pc Lc (.ref v :: .int i :: .ref a :: T) h := by
  intro H locs ls hW hS hL
  obtain ⟨c1, c2, c3, c4, c5, c6, c7, c8, c9, c10⟩ := C
  obtain ⟨k, hkk⟩ : ∃ k, (mS h a).1 = k := ⟨_, rfl⟩
  rw [hkk] at hk hv
  have hk2 := isRA_or hk
  have hok : okA k := by unfold okA; omega
  obtain ⟨g1, g2, g3⟩ := wka hW hkk hok
  show Wg x H locs _ _ (F0 (xm x) pc ls (cv w.1 (.ref v) :: .int i :: cv w.1 (.ref a) :: T.map (cv w.1)))
  rw [cv_r g1]
  have e : mR (wR h a (va_up (mR h a) i.toNatClampNeg v)) a = va_up (mR h a) i.toNatClampNeg v := va_up_s _ _ _
  have hvf : updV (vfA w.1 h a k) i.toNatClampNeg (cr w.1 v) = vfA w.1 (wR h a (va_up (mR h a) i.toNatClampNeg v)) a k := by
    rcases hk2 with rfl | rfl
    · funext q
      show updV (fun j => cr w.1 (mR h a j)) i.toNatClampNeg (cr w.1 v) q = cr w.1 (mR (wR h a (va_up (mR h a) i.toNatClampNeg v)) a q)
      rw [e]
      unfold updV va_up
      split <;> rfl
    · funext q
      show updV (fun j => cr w.1 (mR h a j)) i.toNatClampNeg (cr w.1 v) q = cr w.1 (mR (wR h a (va_up (mR h a) i.toNatClampNeg v)) a q)
      rw [e]
      unfold updV va_up
      split <;> rfl
  have fin := st_fin c10 hW hS hL hkk hok g1 g3 (sb_R h a _) hvf kk
  rcases hv with rfl | ⟨hv8, hvk⟩
  · rcases hk2 with rfl | rfl
    · exact va_WaastN (C := "QuiverKin$Table") c1 c2 g3 ((inK c6 5 (by omega)).1 _ _) (fun q => by cases q) (inv_arr hin) rfl rfl hd fin
    · exact va_WaastN (C := "QuiverKin$Text") c1 c2 g3 ((inK c6 6 (by omega)).1 _ _) (fun q => by cases q) (inv_arr hin) rfl rfl hd fin
  · rw [cv_r hv8]
    rw [cr_ref (by omega)] at fin
    have hin2 := inv_of hin
    rcases hk2 with rfl | rfl
    · obtain ⟨-, -, cellV, v1, v2, v3, -⟩ := wko hW (ci := 7) (by decide) hvk
      have hcls := (c6.1.1 7 _ (clv_at (by decide))).2
      obtain ⟨kA, comp, k1, k2, k3, -⟩ := (inK c6 5 (by omega)).2
      have hcomp : comp = w.2.2.1.1 7 := Option.some.inj (k3.symm.trans hcls.1)
      subst hcomp
      obtain ⟨kC, hkC, -⟩ := hcls.2
      exact W.aast c1 c2 g3 (fun q h => by cases h) (fun h => by cases h) k1 k2 rfl hkC ⟨fun q => hin2 (Or.inl q), by rw [arrV_size]; exact ic hin⟩ v1 (fun q h => by rw [v3] at h; cases h) (by rw [v2]; exact hkC) (by rw [v2]; exact va_assign hcls) rfl rfl hd fin
    · obtain ⟨-, -, cellV, v1, v2, v3, -⟩ := wko hW (ci := 9) (by decide) hvk
      have hcls := (c6.1.1 9 _ (clv_at (by decide))).2
      obtain ⟨kA, comp, k1, k2, k3, -⟩ := (inK c6 6 (by omega)).2
      have hcomp : comp = w.2.2.1.1 9 := Option.some.inj (k3.symm.trans hcls.1)
      subst hcomp
      obtain ⟨kC, hkC, -⟩ := hcls.2
      exact W.aast c1 c2 g3 (fun q h => by cases h) (fun h => by cases h) k1 k2 rfl hkC ⟨fun q => hin2 (Or.inl q), by rw [arrV_size]; exact ic hin⟩ v1 (fun q h => by rw [v3] at h; cases h) (by rw [v2]; exact hkC) (by rw [v2]; exact va_assign hcls) rfl rfl hd fin
end
