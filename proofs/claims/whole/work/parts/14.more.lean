/-! what makes rows; copies; texts; statics; switches -/
section
variable {w : WX} {x : FX} {M pc : Nat} {Lc T : List Value} {h : Mem}
theorem mk_o (h : Mem) (k n b : Nat) (hb : b ≠ mN h) : mS (mk h k n) b = mS h b ∧ mI (mk h k n) b = mI h b ∧ mJ (mk h k n) b = mJ h b ∧ mR (mk h k n) b = mR h b := ⟨va_up_o _ _ _ _ hb, va_up_o _ _ _ _ hb, va_up_o _ _ _ _ hb, va_up_o _ _ _ _ hb⟩
theorem mk_s (h : Mem) (k n : Nat) : mS (mk h k n) (mN h) = (k, n) ∧ mI (mk h k n) (mN h) = (fun _ => 0) ∧ mJ (mk h k n) (mN h) = (fun _ => 0) ∧ mR (mk h k n) (mN h) = (fun _ => 0) := ⟨va_up_s _ _ _, va_up_s _ _ _, va_up_s _ _ _, va_up_s _ _ _⟩
theorem vf_mk {φ : Nat → Nat} {k n : Nat} (hk : okA k) : (fun _ => defaultValue (tyK k)) = vfA φ (mk h k n) (mN h) k := by
  obtain ⟨-, e1, e2, e3⟩ := mk_s h k n
  funext j
  rcases hk with rfl | rfl | rfl | rfl | rfl
  · show _ = Value.int (mI (mk h 1 n) (mN h) j); rw [e1]; rfl
  · show _ = Value.int (mI (mk h 2 n) (mN h) j); rw [e1]; rfl
  · show _ = Value.long (mJ (mk h 3 n) (mN h) j); rw [e2]; rfl
  · show _ = cr φ (mR (mk h 5 n) (mN h) j); rw [e3]; rfl
  · show _ = cr φ (mR (mk h 6 n) (mN h) j); rw [e3]; rfl
theorem mk_W {H H1 : Heap} (c10 : Wok w) (hW : Wr w h H) {k n : Nat} (hk : okA k) (e1 : H1[H.size]? = some (arrV (w.2.2.2.1 k) n (fun _ => defaultValue (tyK k)))) (z1 : H1.size = H.size + 1) (o1 : ∀ q, q < H.size → H1[q]? = H[q]?) : Wr w (mk h k n) H1 := by
  refine WR.new c10 hW rfl (fun b hb => mk_o h k n b hb) z1 o1 ?_
  obtain ⟨s1, -⟩ := mk_s h k n
  unfold CR
  rw [s1, if_pos (by show k < 16; unfold okA at hk; omega)]
  refine ⟨hk, ?_⟩
  rw [show H.size = w.1 (mN h) by rw [hW.1, c10 _ hW.2.1], vf_mk (φ := w.1) (n := n) hk] at e1
  exact e1
theorem hs_eq {H : Heap} (c10 : Wok w) (hW : Wr w h H) : H.size = w.1 (mN h) := by rw [hW.1, c10 _ hW.2.1]
theorem n_nn {n : Int32} (h : 0 ≤ n.toInt) : ¬ n < 0 := fun q => by
  have := Int32.lt_iff_toInt_lt.mp q
  simp at this
  omega
theorem n_le {n : Int32} (h : n.toInt ≤ 100000) : n.toNatClampNeg ≤ 100000 := by
  show n.toInt.toNat ≤ 100000
  omega
theorem g_newa (C : Ctx w x M) {atype : ArrayType} {k : Nat} (hk : k = 1 ∨ k = 2 ∨ k = 3) (ht : newarray.typeOf atype = tyK k) {n : Int32} (hn : 0 ≤ n.toInt ∧ n.toInt ≤ 100000) (h0 : xn0 x ≤ mN h ∧ xc0 x ≤ mC h) (hr : mN (mk h k n.toNatClampNeg) - xn0 x ≤ (xRm x).cells ∧ mC (mk h k n.toNatClampNeg) - xc0 x ≤ (xRm x).slots) (hd : decode (bM M) pc = .ok (.newarray atype, 2)) (kk : GW w x M (pc + 2) Lc (.ref (mN h) :: T) (mk h k n.toNatClampNeg)) : GW w x M pc Lc (.int n :: T) h := by
  intro H locs ls hW hS hL
  obtain ⟨c1, c2, c3, c4, c5, c6, c7, c8, c9, c10⟩ := C
  have hok : okA k := by unfold okA; omega
  have eN : mN (mk h k n.toNatClampNeg) = mN h + 1 := rfl
  have eC : mC (mk h k n.toNatClampNeg) = mC h + n.toNatClampNeg := rfl
  rw [eN, eC] at hr
  have hac : Cond.arrayClass (newarray.typeOf atype) ∈ Wds := by
    rw [ht]
    rcases hk with rfl | rfl | rfl
    · exact w_sp 0 rfl
    · exact w_sp 1 rfl
    · exact w_sp 2 rfl
  have hb : n.toNatClampNeg * componentBytes (newarray.typeOf atype) ≤ 536870912 := by
    rw [ht]
    have := n_le hn.2
    rcases hk with rfl | rfl | rfl
    · show _ * 4 ≤ _; omega
    · show _ * 1 ≤ _; omega
    · show _ * 8 ≤ _; omega
  refine va_newaK c1 c2 (c5 _ hac) rfl hd rfl (n_nn hn.1) rfl hb (by omega) (by omega) rfl fun H1 cA e1 z1 o1 hAr hNm => ?_
  rw [ht] at e1 hNm
  have ra := (inK c6 k hok).2
  have ecA : cA = w.2.2.2.1 k := by
    rcases hk with rfl | rfl | rfl
    · exact Option.some.inj (hNm.symm.trans ra)
    · exact Option.some.inj (hNm.symm.trans ra)
    · exact Option.some.inj (hNm.symm.trans ra)
  subst ecA
  have k1 := kk H1 locs ls (mk_W c10 hW hok e1 z1 o1) (hS.born z1 o1) hL
  rw [eN, eC, show mN h + 1 - xn0 x = mN h - xn0 x + 1 by omega, show mC h + n.toNatClampNeg - xc0 x = mC h - xc0 x + n.toNatClampNeg by omega] at k1
  have k2 : Wg x H1 locs (mN h - xn0 x + 1) (mC h - xc0 x + n.toNatClampNeg) (F0 (xm x) (pc + 2) ls (cv w.1 (.ref (mN h)) :: T.map (cv w.1))) := k1
  rw [cv_r hW.2.1, ← hs_eq c10 hW] at k2
  exact k2
theorem g_anew (C : Ctx w x M) {idx k : Nat} (hk : k = 5 ∨ k = 6) (hl : (gM M, idx, k) ∈ CL) {n : Int32} (hn : 0 ≤ n.toInt ∧ n.toInt ≤ 100000) (h0 : xn0 x ≤ mN h ∧ xc0 x ≤ mC h) (hr : mN (mk h k n.toNatClampNeg) - xn0 x ≤ (xRm x).cells ∧ mC (mk h k n.toNatClampNeg) - xc0 x ≤ (xRm x).slots) (hd : decode (bM M) pc = .ok (.anewarray idx, 3)) (kk : GW w x M (pc + 3) Lc (.ref (mN h) :: T) (mk h k n.toNatClampNeg)) : GW w x M pc Lc (.int n :: T) h := by
  intro H locs ls hW hS hL
  obtain ⟨c1, c2, c3, c4, c5, c6, c7, c8, c9, c10⟩ := C
  have hok : okA k := by unfold okA; omega
  have eN : mN (mk h k n.toNatClampNeg) = mN h + 1 := rfl
  have eC : mC (mk h k n.toNatClampNeg) = mC h + n.toNatClampNeg := rfl
  rw [eN, eC] at hr
  have hcl := c5 _ (w_CL hl)
  have hb : n.toNatClampNeg * 4 ≤ 536870912 := by have := n_le hn.2; omega
  have fin : ∀ (C : String) (cA : ClassId) (kA : Class) (comp : ClassId), tyK k = .object C → (xs_ x).vm.findClass ("[" ++ (FieldType.object C).toString) = some cA → Wg x (H.push { cls := cA, slots := Array.replicate n.toNatClampNeg .null, vm := .none }) locs (mN h - xn0 x + 1) (mC h - xc0 x + n.toNatClampNeg) (F0 (xm x) (pc + 3) ls (.ref H.size :: T.map (cv w.1))) := by
    intro C cA kA comp hty f1
    have ra := (inK c6 k hok).2
    rw [hty] at ra
    obtain ⟨_, _, -, -, -, r4⟩ := ra
    have ecA : cA = w.2.2.2.1 k := Option.some.inj (f1.symm.trans r4)
    generalize hH1 : H.push ({ cls := cA, slots := Array.replicate n.toNatClampNeg .null, vm := .none } : Cell) = H1
    have z1 : H1.size = H.size + 1 := by rw [← hH1, Array.size_push]
    have e1 : H1[H.size]? = some (arrV cA n.toNatClampNeg (fun _ => defaultValue (tyK k))) := by rw [← hH1, Array.getElem?_push_size, hty]; exact congrArg some (arrV_new _ _ _)
    have o1 : ∀ q : Nat, q < H.size → H1[q]? = H[q]? := fun q hq => by rw [← hH1, Array.getElem?_push, if_neg (Nat.ne_of_lt hq)]
    rw [ecA] at e1
    have k1 := kk H1 locs ls (mk_W c10 hW hok e1 z1 o1) (hS.born z1 o1) hL
    rw [eN, eC, show mN h + 1 - xn0 x = mN h - xn0 x + 1 by omega, show mC h + n.toNatClampNeg - xc0 x = mC h - xc0 x + n.toNatClampNeg by omega] at k1
    have k2 : Wg x H1 locs (mN h - xn0 x + 1) (mC h - xc0 x + n.toNatClampNeg) (F0 (xm x) (pc + 3) ls (cv w.1 (.ref (mN h)) :: T.map (cv w.1))) := k1
    rw [cv_r hW.2.1, ← hs_eq c10 hW] at k2
    exact k2
  rcases hk with rfl | rfl
  · exact W.anew c1 c2 c4 hcl (va_AO.use c6.2.1) rfl hd rfl (n_nn hn.1) hb (by omega) (by omega) fun cA kA comp f1 f2 f3 f4 => fin "QuiverKin$Table" cA kA comp rfl f1
  · exact W.anew c1 c2 c4 hcl (va_AO.use c6.2.2.1) rfl hd rfl (n_nn hn.1) hb (by omega) (by omega) fun cA kA comp f1 f2 f3 f4 => fin "QuiverKin$Text" cA kA comp rfl f1
/-- fields of the two texts that stand outside -/
theorem g_getS (C : Ctx w x M) {k a idx : Nat} {b : Bool} {v : Value} (hk : k < 2) (hK : (mS h a).1 = 28) (hl : (gM M, idx, 12, k, b) ∈ FL) (hb : b = false) (hv : v = if k = 0 then .ref (mR h a 0) else .int (mI h a k)) (hd : decode (bM M) pc = .ok (.getfield idx, 3)) (kk : GW w x M (pc + 3) Lc (v :: T) h) : GW w x M pc Lc (.ref a :: T) h := by
  intro H locs ls hW hS hL
  obtain ⟨c1, c2, c3, c4, c5, c6, c7, c8, c9, c10⟩ := C
  subst hb
  have hlink := c5 _ (w_FL hl)
  have ha : a = 2 ∨ a = 3 := by
    obtain ⟨w1, w2, w3, w4, w5⟩ := hW
    rcases Nat.lt_or_ge a 8 with q | q
    · have e := (w4 a q).1
      rw [e] at hK
      rcases a with _ | _ | _ | _ | _ | _ | _ | _ | a
      · cases hK
      · cases hK
      · exact Or.inl rfl
      · exact Or.inr rfl
      · cases hK
      · cases hK
      · cases hK
      · cases hK
      · omega
    · exfalso
      rcases Nat.lt_or_ge a (mN h) with g | g
      · have c := w5 a q g
        unfold CR at c
        rw [if_neg (by rw [hK]; omega), hK] at c
        exact absurd c.1 (by decide)
      · rw [w3 a g] at hK; cases hK
  have k1 := kk H locs ls hW hS hL
  have hs := c6.2.2.2.2.2.1
  rcases ha with rfl | rfl
  · have em := (hW.2.2.2.1 2 (by decide)).2
    rw [em.1, em.2] at hv
    rcases (show k = 0 ∨ k = 1 by omega) with rfl | rfl
    · rw [if_pos rfl] at hv; subst hv
      exact va_getX (N := 2) (v := fun i => .ref (w.1 (i + 4))) (ad := fun i => w.1 (i + 2)) c1 c2 (fun i hi => (hs.1 i hi).2.2.1) (i := 0) (by decide) hS c4 hlink (fun _ q => q) hd k1
    · rw [if_neg (by decide)] at hv; subst hv
      exact va_getX (N := 2) (v := fun i => .int 0) (ad := fun i => w.1 (i + 2)) c1 c2 (fun i hi => (hs.1 i hi).2.1) (i := 0) (by decide) hS c4 hlink (fun _ q => q) hd k1
  · have em := (hW.2.2.2.1 3 (by decide)).2
    rw [em.1, em.2] at hv
    rcases (show k = 0 ∨ k = 1 by omega) with rfl | rfl
    · rw [if_pos rfl] at hv; subst hv
      exact va_getX (N := 2) (v := fun i => .ref (w.1 (i + 4))) (ad := fun i => w.1 (i + 2)) c1 c2 (fun i hi => (hs.1 i hi).2.2.1) (i := 1) (by decide) hS c4 hlink (fun _ q => q) hd k1
    · rw [if_neg (by decide)] at hv; subst hv
      exact va_getX (N := 2) (v := fun i => .int 0) (ad := fun i => w.1 (i + 2)) c1 c2 (fun i hi => (hs.1 i hi).2.1) (i := 1) (by decide) hS c4 hlink (fun _ q => q) hd k1
theorem g_gets (C : Ctx w x M) {idx j : Nat} {v : Value} (hl : (gM M, idx, j) ∈ SL) (hv : (j = 1 ∧ v = .ref 1) ∨ (j = 2 ∧ v = .int 1) ∨ (j = 3 ∧ v = .retAddr 1)) (hd : decode (bM M) pc = .ok (.getstatic idx, 3)) (kk : GW w x M (pc + 3) Lc (v :: T) h) : GW w x M pc Lc T h := by
  intro H locs ls hW hS hL
  obtain ⟨c1, c2, c3, c4, c5, c6, c7, c8, c9, c10⟩ := C
  have hlink := c5 _ (w_SL hl)
  have k1 := kk H locs ls hW hS hL
  rcases hv with ⟨rfl, rfl⟩ | ⟨rfl, rfl⟩ | ⟨rfl, rfl⟩
  · exact va_gets c1 c2 c6.2.2.2.2.2.2.2.2.1 hS c4 hlink (fun _ q => q) hd k1
  · exact va_gets c1 c2 c6.2.2.2.2.2.2.2.2.2.1 hS c4 hlink (fun _ q => q) hd k1
  · exact va_gets c1 c2 c6.2.2.2.2.2.2.2.2.2.2 hS c4 hlink (fun _ q => q) hd k1
theorem g_ldc (C : Ctx w x M) {idx : Nat} {v : Int32} (hl : (gM M, idx, v) ∈ KI) (hd : decode (bM M) pc = .ok (.ldc idx, 2)) (kk : GW w x M (pc + 2) Lc (.int v :: T) h) : GW w x M pc Lc T h := fun H locs ls hW hS hL => lv_ldc C.1 C.2.1 C.2.2.2.1 (C.2.2.2.2.1 _ (w_KI hl)) hd (kk H locs ls hW hS hL)
theorem g_ldcw (C : Ctx w x M) {idx : Nat} {v : Int32} (hl : (gM M, idx, v) ∈ KI) (hd : decode (bM M) pc = .ok (.ldc_w idx, 3)) (kk : GW w x M (pc + 3) Lc (.int v :: T) h) : GW w x M pc Lc T h := fun H locs ls hW hS hL => lv_ldcw C.1 C.2.1 C.2.2.2.1 (C.2.2.2.2.1 _ (w_KI hl)) hd (kk H locs ls hW hS hL)
theorem g_ldc2 (C : Ctx w x M) {idx : Nat} {v : Int64} (hl : (gM M, idx, v) ∈ KJ) (hd : decode (bM M) pc = .ok (.ldc2_w idx, 3)) (kk : GW w x M (pc + 3) Lc (.long v :: T) h) : GW w x M pc Lc T h := fun H locs ls hW hS hL => lv_ldc2 C.1 C.2.1 C.2.2.2.1 (C.2.2.2.2.1 _ (w_KJ hl)) hd (kk H locs ls hW hS hL)
theorem g_ldcS (C : Ctx w x M) {idx : Nat} {v : Value} (hg : gM M = gTape) (hv : (idx = xk2 ∧ v = .ref 2) ∨ (idx = xk3 ∧ v = .ref 3)) (hd : decode (bM M) pc = .ok (.ldc idx, 2)) (kk : GW w x M (pc + 2) Lc (v :: T) h) : GW w x M pc Lc T h := by
  intro H locs ls hW hS hL
  obtain ⟨c1, c2, c3, c4, c5, c6, c7, c8, c9, c10⟩ := C
  have k1 := kk H locs ls hW hS hL
  rw [hg, show ON gTape = "QuiverKin$Tape" from rfl] at c4
  rcases hv with ⟨rfl, rfl⟩ | ⟨rfl, rfl⟩
  · exact va_ldcS c1 c2 c4 c6.2.2.2.1 hd k1
  · exact va_ldcS c1 c2 c4 c6.2.2.2.2.1 hd k1
theorem g_cast (C : Ctx w x M) {idx a : Nat} (hl : (gM M, idx, 1) ∈ CL) (hk : (mS h a).1 = 1) (hd : decode (bM M) pc = .ok (.checkcast idx, 3)) (kk : GW w x M (pc + 3) Lc (.ref a :: T) h) : GW w x M pc Lc (.ref a :: T) h := by
  intro H locs ls hW hS hL
  obtain ⟨c1, c2, c3, c4, c5, c6, c7, c8, c9, c10⟩ := C
  obtain ⟨g1, g2, g3⟩ := wka hW hk (Or.inl rfl)
  have k1 : Wg x H locs (mN h - xn0 x) (mC h - xc0 x) (F0 (xm x) (pc + 3) ls (cv w.1 (.ref a) :: T.map (cv w.1))) := kk H locs ls hW hS hL
  show Wg x H locs _ _ (F0 (xm x) pc ls (cv w.1 (.ref a) :: T.map (cv w.1)))
  rw [cv_r g1] at k1 ⊢
  exact va_castA (D := w.2.2.1) (cl := clv) c1 c2 (nm := "[I") c4 (c5 _ (w_CL hl)) (ws := [(w.1 a, .inl (w.2.2.2.1 1, (mS h a).2, .inl (mI h a)))]) (fun k q hq => by
    have hz : k < 1 := (List.getElem?_eq_some_iff.mp hq).1
    rw [show k = 0 by omega] at hq
    cases hq
    exact g3) 0 rfl ((inK c6 1 (Or.inl rfl)).2) hd k1
end
