/-! clone and arraycopy of rows of int -/
section
variable {w : WX} {x : FX} {M pc : Nat} {Lc T : List Value} {h : Mem}
theorem g_clone (C : Ctx w x M) {idx a : Nat} (hl : (gM M, idx) = spL) (hk : (mS h a).1 = 1) (hcat : catS T ≤ 8) (hR : 1 ≤ (xRm x).frames ∧ 64 ≤ (xRm x).locals) (h0 : xn0 x ≤ mN h ∧ xc0 x ≤ mC h) (hr : mN h + 1 - xn0 x ≤ (xRm x).cells ∧ mC h + (mS h a).2 - xc0 x ≤ (xRm x).slots) (hd : decode (bM M) pc = .ok (.invokevirtual idx, 3)) (kk : GW w x M (pc + 3) Lc (.ref (mN h) :: T) (wI (mk h 1 (mS h a).2) (mN h) (mI h a))) : GW w x M pc Lc (.ref a :: T) h := by
  intro H locs ls hW hS hL
  have hls : ls.size = mxx M := by obtain ⟨lv, g, -⟩ := hL; exact g.1
  obtain ⟨c1, c2, c3, c4, c5, c6, c7, c8, c9, c10⟩ := C
  obtain ⟨g1, g2, g3⟩ := wka hW hk (Or.inl rfl)
  have hlink : (Cond.methodLink (ON (gM M)) idx yClone).before (xa x) (xs_ x) = true := by
    have := c5 _ (w_sp 9 rfl)
    rw [show spL.1 = gM M by rw [← hl], show spL.2 = idx by rw [← hl]] at this
    exact this
  obtain ⟨hA, hRA⟩ := inK c6 1 (Or.inl rfl)
  have hsame : (Cond.sameMethod "[I" "java/lang/Object" "clone" "()Ljava/lang/Object;").before (xa x) (xs_ x) = true := c5 _ (w_sp 10 rfl)
  have hnat : (Cond.native yCloneO).before (xa x) (xs_ x) = true := c5 _ (w_sp 11 rfl)
  have hinst : (Cond.instanceMethod yCloneO).before (xa x) (xs_ x) = true := c5 _ (w_sp 12 rfl)
  have hsel : (Cond.selects "[I" yClone yCloneO).before (xa x) (xs_ x) = true := c5 _ (w_sp 13 rfl)
  have hcast : (Cond.castable "[I" "java/lang/Cloneable").before (xa x) (xs_ x) = true := c5 _ (w_sp 14 rfl)
  obtain ⟨q0, q1, f1, f2, f3⟩ := Cond.castable_spec hcast
  have hnm : (xs_ x).vm.findClass "[I" = some (w.2.2.2.1 1) := hRA
  cases hnm.symm.trans f1
  show Wg x H locs _ _ (F0 (xm x) pc ls (cv w.1 (.ref a) :: T.map (cv w.1)))
  rw [cv_r g1]
  intro S hS1 X
  generalize hcell : arrV (w.2.2.2.1 1) (mS h a).2 (vfA w.1 h a 1) = cell at g3
  have e1 : cell.cls = w.2.2.2.1 1 := by rw [← hcell]; rfl
  have e2 : cell.vm = .none := by rw [← hcell]; rfl
  have e3 : cell.slots.size = (mS h a).2 := by rw [← hcell]; exact arrV_size _ _ _
  have e4 : ({ cls := cell.cls, slots := cell.slots } : Cell) = cell := by rw [← hcell]; rfl
  obtain ⟨-, kA, hkA, comp, hkind⟩ := State.isArrayOf_alike X.warmed.alike (hA 0 (fun _ => .null))
  obtain ⟨-, kS, hkS, compS, hkindS⟩ := hA 0 (fun _ => .null)
  obtain ⟨vm', X', st⟩ := X.cloneArray c1 c4 hlink hsame hnat hinst hsel (a := w.1 a) (cell := cell) (by rw [hS1]; exact g3) (fun k q => by rw [e2] at q; cases q) (by rw [e2]; exact fun q => by cases q) (by rw [e1]; exact hnm) f2 (by rw [e1]; exact f3)
    (fun i v hv => by
      rw [e1]
      have hk' : S.vm.classes[w.2.2.2.1 1]? = some kA := hkA
      have hv2 : ∃ z : Int32, v = .int z := by
        rw [← hcell] at hv
        have hi : i < (mS h a).2 := by
          have := (Array.getElem?_eq_some_iff.mp hv).1
          rwa [arrV_size] at this
        rw [arrV_read _ _ hi] at hv
        exact ⟨_, (Option.some.inj hv).symm⟩
      obtain ⟨z, rfl⟩ := hv2
      simp [State.fitsSlot, State.slotType?, hk', hkind, tyK, fits])
    (g := F0 (xm x) pc ls (.ref (w.1 a) :: T.map (cv w.1))) rfl (hls.trans c3.symm) rfl (by rw [c2]; exact hd) hR.1 (by show 2 * 0 + _ + 14 ≤ _; rw [catS_map]; omega) (by omega) (by rw [e3]; omega) (hloader := by rw [e1]; exact Vm.clonesLoader_of_array hkS hkindS)
  rw [e4, e3] at X'
  rw [e4] at st
  generalize hH1 : H.push cell = H1
  have z1 : H1.size = H.size + 1 := by rw [← hH1, Array.size_push]
  have p1 : H1[H.size]? = some cell := by rw [← hH1, Array.getElem?_push_size]
  have o1 : ∀ q : Nat, q < H.size → H1[q]? = H[q]? := fun q hq => by rw [← hH1, Array.getElem?_push, if_neg (Nat.ne_of_lt hq)]
  have hs := hs_eq c10 hW
  have k1 := kk H1 locs ls (WR.new c10 hW rfl (fun b hb => ⟨(mk_o h 1 (mS h a).2 b hb).1, (va_up_o _ _ _ _ hb).trans (mk_o h 1 (mS h a).2 b hb).2.1, (mk_o h 1 (mS h a).2 b hb).2.2.1, (mk_o h 1 (mS h a).2 b hb).2.2.2⟩) z1 o1 (by
    have s1 : mS (wI (mk h 1 (mS h a).2) (mN h) (mI h a)) (mN h) = (1, (mS h a).2) := (mk_s h 1 (mS h a).2).1
    have s2 : mI (wI (mk h 1 (mS h a).2) (mN h) (mI h a)) (mN h) = mI h a := va_up_s _ _ _
    unfold CR
    rw [s1, if_pos (show (1 : Nat) < 16 by decide)]
    refine ⟨Or.inl rfl, ?_⟩
    rw [← hs, p1, ← hcell]
    have : vfA w.1 (wI (mk h 1 (mS h a).2) (mN h) (mI h a)) (mN h) 1 = vfA w.1 h a 1 := by
      funext j
      show Value.int (mI (wI (mk h 1 (mS h a).2) (mN h) (mI h a)) (mN h) j) = Value.int (mI h a j)
      rw [s2]
    rw [this])) (hS.born z1 o1) hL
  have eN : mN (wI (mk h 1 (mS h a).2) (mN h) (mI h a)) = mN h + 1 := rfl
  have eC : mC (wI (mk h 1 (mS h a).2) (mN h) (mI h a)) = mC h + (mS h a).2 := rfl
  rw [eN, eC, show mN h + 1 - xn0 x = mN h - xn0 x + 1 by omega, show mC h + (mS h a).2 - xc0 x = mC h - xc0 x + (mS h a).2 by omega] at k1
  have k2 : Wg x H1 locs (mN h - xn0 x + 1) (mC h - xc0 x + (mS h a).2) (F0 (xm x) (pc + 3) ls (cv w.1 (.ref (mN h)) :: T.map (cv w.1))) := k1
  rw [cv_r hW.2.1, ← hs] at k2
  obtain ⟨t, a1, b1⟩ := k2 ((S.setVm vm').pushCell cell) (by rw [← hH1, ← hS1]; rfl) X'
  refine ⟨t, st t ?_, b1⟩
  rw [hS1]
  exact a1
theorem n_tc {n : Int32} (h : 0 ≤ n.toInt) : n.toInt = (n.toNatClampNeg : Int) := by
  show n.toInt = ((n.toInt.toNat : Nat) : Int)
  omega
theorem g_acopy (C : Ctx w x M) {idx a b : Nat} {i j n : Int32} (hl : (gM M, idx) = spC) (hka : (mS h a).1 = 1) (hkb : (mS h b).1 = 1) (hcat : catS T ≤ 8) (hR : 1 ≤ (xRm x).frames ∧ 64 ≤ (xRm x).locals) (hi : 0 ≤ i.toInt) (hj : 0 ≤ j.toInt) (hn : 0 ≤ n.toInt) (h4 : i.toInt + n.toInt ≤ (mS h a).2) (h5 : j.toInt + n.toInt ≤ (mS h b).2) (hd : decode (bM M) pc = .ok (.invokestatic idx, 3)) (kk : GW w x M (pc + 3) Lc T (wI h b (va_cpy (mI h a) (mI h b) i.toNatClampNeg j.toNatClampNeg n.toNatClampNeg))) : GW w x M pc Lc (.int n :: .int j :: .ref b :: .int i :: .ref a :: T) h := by
  intro H locs ls hW hS hL
  have hls : ls.size = mxx M := by obtain ⟨lv, g, -⟩ := hL; exact g.1
  obtain ⟨c1, c2, c3, c4, c5, c6, c7, c8, c9, c10⟩ := C
  obtain ⟨g1, g2, g3⟩ := wka hW hka (Or.inl rfl)
  obtain ⟨r1, r2, r3⟩ := wka hW hkb (Or.inl rfl)
  have hlink : (Cond.methodLink (ON (gM M)) idx arraycopyName).before (xa x) (xs_ x) = true := by
    have := c5 _ (w_sp 5 rfl)
    rw [show spC.1 = gM M by rw [← hl], show spC.2 = idx by rw [← hl]] at this
    exact this
  have hnat : (Cond.native arraycopyName).before (xa x) (xs_ x) = true := c5 _ (w_sp 6 rfl)
  have hstat : (Cond.static arraycopyName).before (xa x) (xs_ x) = true := c5 _ (w_sp 7 rfl)
  have hini : (Cond.initialized "java/lang/System").before (xa x) (xs_ x) = true := c5 _ (w_sp 8 rfl)
  obtain ⟨hA, hRA⟩ := inK c6 1 (Or.inl rfl)
  show Wg x H locs _ _ (F0 (xm x) pc ls (.int n :: .int j :: cv w.1 (.ref b) :: .int i :: cv w.1 (.ref a) :: T.map (cv w.1)))
  rw [cv_r g1, cv_r r1]
  intro S hS1 X
  obtain ⟨-, k0, hk0, cm0, hkk0⟩ := hA (mS h a).2 (vfA w.1 h a 1)
  have hlen : i.toNatClampNeg + n.toNatClampNeg ≤ (mS h a).2 := by have := n_tc hi; have := n_tc hn; omega
  obtain ⟨vm', X', step⟩ := X.arraycopy c1 c4 hlink hnat hstat hini (src := w.1 a) (dst := w.1 b) (cs := arrV (w.2.2.2.1 1) (mS h a).2 (vfA w.1 h a 1)) (cd := arrV (w.2.2.2.1 1) (mS h b).2 (vfA w.1 h b 1)) (srcPos := i) (destPos := j) (n := n) (by rw [hS1]; exact g3) (by rw [hS1]; exact r3)
    (fun _ q => by cases q) (fun _ q => by cases q) (fun q => by cases q) (fun q => by cases q) hk0 hk0 hkk0 hkk0 rfl (n_nn hi) (n_nn hj) (n_nn hn)
    (by rw [arrV_size]; omega) (by rw [arrV_size]; omega)
    (fun vm₁ _ q hq => by
      have e : (arrV (w.2.2.2.1 1) (mS h a).2 (vfA w.1 h a 1)).slots.getD (i.toNatClampNeg + q) .null = .int (mI h a (i.toNatClampNeg + q)) := by
        rw [Array.getD_eq_getD_getElem?, arrV_read _ _ (by omega)]
        rfl
      rw [e]
      exact ⟨rfl, trivial⟩)
    (g := F0 (xm x) pc ls (.int n :: .int j :: .ref (w.1 b) :: .int i :: .ref (w.1 a) :: T.map (cv w.1))) rfl (hls.trans c3.symm) (rest := T.map (cv w.1)) rfl (by rw [c2]; exact hd) hR.1 (by
      show 2 * 0 + _ + (nativeFrameWords "java/lang/System" "arraycopy" 5 + 11) ≤ _
      rw [catS_map]
      have : nativeFrameWords "java/lang/System" "arraycopy" 5 + 11 ≤ 56 := by decide +kernel
      omega)
  have e1 : copied (arrV (w.2.2.2.1 1) (mS h a).2 (vfA w.1 h a 1)) (arrV (w.2.2.2.1 1) (mS h b).2 (vfA w.1 h b 1)) i j n = arrV (w.2.2.2.1 1) (mS h b).2 (fun q => .int (va_cpy (mI h a) (mI h b) i.toNatClampNeg j.toNatClampNeg n.toNatClampNeg q)) := va_copied (fun z => .int z) (w.2.2.2.1 1) (w.2.2.2.1 1) (mI h a) (mI h b) hlen
  rw [e1] at X' step
  have hl2 : w.1 b < H.size := (Array.getElem?_eq_some_iff.mp r3).1
  generalize hcell : arrV (w.2.2.2.1 1) (mS h b).2 (fun q => Value.int (va_cpy (mI h a) (mI h b) i.toNatClampNeg j.toNatClampNeg n.toNatClampNeg q)) = cell at X' step
  have oq : ∀ q : Nat, q ≠ w.1 b → (H.setIfInBounds (w.1 b) cell)[q]? = H[q]? := fun q hq => by simp [Array.getElem?_setIfInBounds, Ne.symm hq]
  have z1 : (H.setIfInBounds (w.1 b) cell).size = H.size := by simp
  have sb := sb_I h b (va_cpy (mI h a) (mI h b) i.toNatClampNeg j.toNatClampNeg n.toNatClampNeg)
  have hbb : bs w (w.1 b) := by show w.2.1 ≤ w.1 b; rw [c10 b r1]; omega
  have k1 := kk (H.setIfInBounds (w.1 b) cell) (locs ++ ((arrV (w.2.2.2.1 1) (mS h a).2 (vfA w.1 h a 1)).stretch i.toNatClampNeg n.toNatClampNeg).zipIdx.map fun q => ⟨w.1 b, j.toNatClampNeg + q.2⟩) ls (WR.upd c10 hW sb r1 z1 oq (by
    unfold CR
    rw [sb.1, if_pos (by rw [hkb]; decide), hkb]
    refine ⟨Or.inl rfl, ?_⟩
    rw [show (H.setIfInBounds (w.1 b) cell)[w.1 b]? = some cell by simp [Array.getElem?_setIfInBounds, hl2], ← hcell]
    have s2 : mI (wI h b (va_cpy (mI h a) (mI h b) i.toNatClampNeg j.toNatClampNeg n.toNatClampNeg)) b = va_cpy (mI h a) (mI h b) i.toNatClampNeg j.toNatClampNeg n.toNatClampNeg := va_up_s _ _ _
    have : vfA w.1 (wI h b (va_cpy (mI h a) (mI h b) i.toNatClampNeg j.toNatClampNeg n.toNatClampNeg)) b 1 = fun q => Value.int (va_cpy (mI h a) (mI h b) i.toNatClampNeg j.toNatClampNeg n.toNatClampNeg q) := by
      funext q
      show Value.int (mI (wI h b (va_cpy (mI h a) (mI h b) i.toNatClampNeg j.toNatClampNeg n.toNatClampNeg)) b q) = _
      rw [s2]
    rw [this])) ⟨by rw [z1]; exact hS.1, fun q q1 q2 => by
      rw [oq q (fun e => q2 (by rw [e]; exact hbb))]
      exact hS.2.1 q q1 q2, fun q hq => by
      rcases List.mem_append.mp hq with g | g
      · exact hS.2.2 q g
      · obtain ⟨z, -, hz⟩ := List.mem_map.mp g
        rw [← hz]
        exact hbb⟩ hL
  obtain ⟨t, a1, b1⟩ := k1 ((S.setVm vm').setCell (w.1 b) cell) (by rw [← hS1]; rfl) X'
  exact ⟨t, step t a1, b1⟩
end
