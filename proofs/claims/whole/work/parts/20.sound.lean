/-! SOUNDNESS: what the abstract machine calls is a contract of the real one -/
theorem opAt_mem : ∀ (l : List Op) (pc : Nat) (o : Op), opAt l pc = some o → o ∈ l ∧ o.1 = pc := by
  intro l
  induction l with
  | nil => intro pc o h; cases h
  | cons a l ih =>
    intro pc o h
    rw [opAt] at h
    cases hb : Nat.beq a.1 pc with
    | true =>
      rw [hb] at h
      cases h
      exact ⟨List.mem_cons_self, Nat.eq_of_beq_eq_true hb⟩
    | false =>
      rw [hb] at h
      obtain ⟨g1, g2⟩ := ih pc o h
      exact ⟨List.mem_cons_of_mem _ g1, g2⟩
section
variable {w : WX} {x : FX} {M : Nat}
theorem g_mskO {pc : Nat} {Lc S : List Value} {h : Mem} (m : Option (List Bool)) (k : GW w x M pc (mskO m Lc) S h) : GW w x M pc Lc S h := by
  cases m with
  | none => exact k
  | some m => exact fun H locs ls hW hS hL => k H locs ls hW hS (lr_sub hL (fun i => nth_msk m Lc i))
theorem run_sim {r : Nat} (C : Ctx w x M) (hfr : r + 1 ≤ (xRm x).frames ∧ 64 * (r + 1) ≤ (xRm x).locals) (hI : CalI w (xl x) r) (hG : Good M) {yy : Value × Mem} (hr : mN yy.2 - xn0 x ≤ (xRm x).cells ∧ mC yy.2 - xc0 x ≤ (xRm x).slots)
  (hRet : ∀ o, o ∈ PP M → isRet o.2.1 = true → decode (bM M) o.1 = .ok (o.2.1, o.2.2.1) → chk M o = true → ∀ (nx : Nx) (jp : Nat → Nx) (Lc S : List Value) (h : Mem), stC cA rkk r o nx jp Lc S h = some yy → GW w x M o.1 Lc S h) :
  ∀ n pc Lc S h, (xn0 x ≤ mN h ∧ xc0 x ≤ mC h) → runF PP KK cA rkk r M n pc Lc S h = some yy → GW w x M pc Lc S h := by
  intro n
  induction n with
  | zero => intro pc Lc S h h0 e; cases e
  | succ n ih =>
    intro pc Lc S h h0 e
    rw [runF] at e
    cases ho : opAt (PP M) pc with
    | none => rw [ho] at e; cases e
    | some o =>
      rw [ho] at e
      dsimp only at e
      obtain ⟨hm, hpc⟩ := opAt_mem _ _ _ ho
      obtain ⟨hdec, hch⟩ := hG o hm
      apply g_mskO (KK M pc)
      subst hpc
      cases hb : isRet o.2.1 with
      | true => exact hRet o hm hb hdec hch _ _ _ _ _ e
      | false =>
        refine sim1 C hfr hI o hdec hch hr (fun L S h' hl q => ?_) (fun t L S h' hl q => ?_) h0 hb e
        · have hl2 := runF_le (calA_mono PP KK mxx rkk rcc r) n _ _ _ _ yy.1 yy.2 q
          exact ⟨hl2, ih _ _ _ _ ⟨Nat.le_trans h0.1 hl.1, Nat.le_trans h0.2 hl.2⟩ q⟩
        · exact ih _ _ _ _ ⟨Nat.le_trans h0.1 hl.1, Nat.le_trans h0.2 hl.2⟩ q
/-- a method's end -/
theorem ret_sim {r : Nat} (C : Ctx w x M) (hrt : (xM_ x).sig.returnType = rM M) {yy : Value × Mem} (hQ : xQ x = MQ (xb x) (QcM w yy.1 yy.2) (xa x) (xs_ x) (mN yy.2 - xn0 x) (mC yy.2 - xc0 x) (bs w)) (o : Op) (hb : isRet o.2.1 = true) (hdec : decode (bM M) o.1 = .ok (o.2.1, o.2.2.1)) (hch : chk M o = true) (nx : Nx) (jp : Nat → Nx) (Lc S : List Value) (h : Mem) (e : stC cA rkk r o nx jp Lc S h = some yy) : GW w x M o.1 Lc S h := by
  obtain ⟨pc, i, len, u, y, z, v, sw⟩ := o
  dsimp only at hdec hb ⊢
  have hlk := C.2.2.2.2.2.2.1
  have fin : ∀ (H : Heap) (locs : List Loc) (v0 : Value), yy = (v0, h) → Wr w h H → va_S (bs w) (xs_ x).heap H locs → ∀ t : State, t.heap = H → (xs_ x).WarmedH t.vm → QcM w v0 h (xa x) (xs_ x) (.returned (cvO w.1 v0)) t := by
    intro H locs v0 _ hW hS t ht _
    exact ⟨rfl, by rw [ht]; exact hW, hS.F ht⟩
  cases i with
  | ireturn =>
    obtain ⟨rfl, hz⟩ := of_decide_eq_true hch
    rcases S with _ | ⟨v1, S⟩
    · exact (nn e).elim
    cases v1 with
    | int c1 =>
      rcases S with _ | ⟨v2, S⟩
      · have e : rtN z c1 h = some yy := e
        intro H locs ls hW hS hL
        have hy : yy = (.int c1, h) ∧ ∃ ty, rM M = some ty ∧ narrow ty (.int c1) = .int c1 := by
          rcases hz with ⟨rfl, hz⟩ | ⟨rfl, hz⟩ | ⟨rfl, hz⟩ | ⟨rfl, hz⟩
          · exact ⟨(Option.some.inj e).symm, _, hz, rfl⟩
          · have e : (if c1 = 0 ∨ c1 = 1 then some (Value.int c1, h) else none) = some yy := e
            split at e
            · rename_i q
              exact ⟨(Option.some.inj e).symm, _, hz, by rcases q with rfl | rfl <;> rfl⟩
            · exact (nn e).elim
          · have e : (if 0 ≤ c1 ∧ c1 ≤ 65535 then some (Value.int c1, h) else none) = some yy := e
            split at e
            · rename_i q
              refine ⟨(Option.some.inj e).symm, _, hz, ?_⟩
              obtain ⟨j, hj, rfl⟩ := nI_of2 (M := 65535) (n := 65535) (by decide) (Int32.not_lt.mpr q.1) q.2
              exact (pk_charN (by omega)).1
            · exact (nn e).elim
          · have e : (if -128 ≤ c1 ∧ c1 ≤ 127 then some (Value.int c1, h) else none) = some yy := e
            split at e
            · rename_i q
              refine ⟨(Option.some.inj e).symm, _, hz, ?_⟩
              show Value.int c1.toInt8.toInt32 = .int c1
              congr 1
              have q1 := Int32.le_iff_toInt_le.mp q.1
              have q2 := Int32.le_iff_toInt_le.mp q.2
              apply Int32.toInt_inj.mp
              rw [Int8.toInt_toInt32, Int32.toInt_toInt8]
              have a1 : (-128 : Int32).toInt = -128 := by decide
              have a2 : (127 : Int32).toInt = 127 := by decide
              rw [a1] at q1
              rw [a2] at q2
              exact Int.bmod_eq_of_le_mul_two (by omega) (by omega)
            · exact (nn e).elim
        obtain ⟨hy, ty, hty, hn⟩ := hy
        have f := fin H locs _ hy hW hS
        subst hy
        show Wg x H locs (mN h - xn0 x) (mC h - xc0 x) (F0 (xm x) pc ls [.int c1])
        unfold Wg
        rw [hQ]
        exact W.zret C.1 C.2.1 (hrt.trans hty) hn f hS.2.2 hdec
      · exact (nn e).elim
    | _ => exact (nn e).elim
  | lreturn =>
    obtain ⟨rfl, hz⟩ := of_decide_eq_true hch
    rcases S with _ | ⟨v1, S⟩
    · exact (nn e).elim
    cases v1 with
    | long c1 =>
      rcases S with _ | ⟨v2, S⟩
      · have hy : yy = (.long c1, h) := (Option.some.inj e).symm
        intro H locs ls hW hS hL
        have f := fin H locs _ hy hW hS
        subst hy
        show Wg x H locs (mN h - xn0 x) (mC h - xc0 x) (F0 (xm x) pc ls [.long c1])
        unfold Wg
        rw [hQ]
        exact W.lret C.1 C.2.1 (hrt.trans hz) f hS.2.2 hdec
      · exact (nn e).elim
    | _ => exact (nn e).elim
  | areturn =>
    obtain ⟨rfl, hz⟩ := of_decide_eq_true hch
    rcases S with _ | ⟨v1, S⟩
    · exact (nn e).elim
    cases v1 with
    | ref c1 =>
      rcases S with _ | ⟨v2, S⟩
      · have hy : yy = (.ref c1, h) := (Option.some.inj e).symm
        intro H locs ls hW hS hL
        have f := fin H locs _ hy hW hS
        subst hy
        show Wg x H locs (mN h - xn0 x) (mC h - xc0 x) (F0 (xm x) pc ls [cr w.1 c1])
        unfold Wg
        rw [hQ]
        have hc : cr w.1 c1 = .null ∨ ∃ a, cr w.1 c1 = .ref a := by
          cases c1 with
          | zero => exact Or.inl rfl
          | succ n => exact Or.inr ⟨_, rfl⟩
        have hrt' : ∃ rt, rM M = some rt ∧ ((∃ n, rt = .object n) ∨ ∃ t, rt = .array t) := by
          revert hz
          cases hR : rM M with
          | none => intro q; cases q
          | some ty =>
            cases ty with
            | object n => intro _; exact ⟨_, rfl, Or.inl ⟨n, rfl⟩⟩
            | array t => intro _; exact ⟨_, rfl, Or.inr ⟨t, rfl⟩⟩
            | _ => intro q; cases q
        obtain ⟨rt, h1, h2⟩ := hrt'
        exact W.aret C.1 C.2.1 (hrt.trans h1) h2 hc f hS.2.2 hdec
      · exact (nn e).elim
    | _ => exact (nn e).elim
  | return_ =>
    obtain ⟨rfl, hz⟩ := of_decide_eq_true hch
    rcases S with _ | ⟨v1, S⟩
    · have hy : yy = (.null, h) := (Option.some.inj e).symm
      intro H locs ls hW hS hL
      have f := fin H locs _ hy hW hS
      subst hy
      show Wg x H locs (mN h - xn0 x) (mC h - xc0 x) (F0 (xm x) pc ls [])
      unfold Wg
      rw [hQ]
      exact W.vret C.1 C.2.1 (hrt.trans hz) f hS.2.2 hdec
    · exact (nn e).elim
  | _ => cases hb
end
theorem plain_ok : ∀ M ∈ idsT, plainFor (yM M) = true := by decide +kernel
theorem sound {w : WX} (hw : Wok w) (l : Launch) : ∀ r, CalI w l r := by
  intro r
  induction r with
  | zero => exact fun M' a h1 v h1' q => absurd q (Nat.not_lt_zero _)
  | succ r ih =>
    intro M a h1 v h1' hrk hM ec
    rcases Nat.lt_or_ge (rkk M a) r with g | g
    · exact ih M a h1 v h1' g hM ec
    have hr : rkk M a = r := Nat.le_antisymm (Nat.le_of_lt_succ hrk) g
    have hlen := (rcc_of ec).1
    rw [cA_rX] at ec
    have ec := (grd_some ec).2
    rw [hr] at ec
    obtain ⟨n, en⟩ := (runA_some (calA_mono PP KK mxx rkk rcc r)).mp ec
    have hle := runF_le (calA_mono PP KK mxx rkk rcc r) n _ _ _ _ v h1' en
    unfold MetM
    rw [hr]
    refine va_MetF (cc := bM M) (maxL := mxx M) (ret := rM M) (plain_ok M hM) rfl ?_
    intro p e s m args below meth c s₁ B hml hv
    obtain ⟨rfl, hW, hK⟩ := hv
    have hts := atoms_spec (ws := wsM M) B.pre
    have hown : s.vm.findClass (yM M).cls = some m.cls := findClass_of_methodNamed B.named
    have C : Ctx w (p, l, e, (headSpec (wsM M) (rm_ r (mN h1' - mN h1) (mC h1' - mC h1))).room, s, m, (a.map (cv w.1)).toArray, below, meth, c, MQ below (QcM w v h1') (a.map (cv w.1)).toArray s (mN h1' - mN h1) (mC h1' - mC h1) (bs w), mN h1, mC h1) M :=
      ⟨B.exec, B.bytes, hml, by rw [← (ini_all M hM).1]; exact hown, fun q hq => hts q (List.mem_cons_of_mem _ hq), hK, B.notSynchronized, fun q => (name_of_methodNamed B.named B.method).1.trans q, by show w.2.1 ≤ s.heap.size; rw [hW.1]; exact Nat.le_add_right _ _, hw⟩
    have k := run_sim C (r := r) ⟨Nat.le_refl _, Nat.le_refl _⟩ ih (good_all M hM) (yy := (v, h1')) ⟨Nat.le_refl _, Nat.le_refl _⟩ (fun o ho hb hd hc nx jp Lc S h e => ret_sim C B.returns rfl o hb hd hc nx jp Lc S h e) n 0 _ [] h1 ⟨Nat.le_refl _, Nat.le_refl _⟩ en
    rw [lg_entry_eq]
    have k2 := k s.heap [] _ hW va_S.rf (lr_entry (φ := w.1) a (mxx M) hlen)
    have z1 : mN h1 - mN h1 = 0 := Nat.sub_self _
    have z2 : mC h1 - mC h1 = 0 := Nat.sub_self _
    have k3 : W p l e (headSpec (wsM M) (rm_ r (mN h1' - mN h1) (mC h1' - mC h1))).room s m (a.map (cv w.1)).toArray below meth c s.heap [] (mN h1 - mN h1) (mC h1 - mC h1) (MQ below (QcM w v h1') (a.map (cv w.1)).toArray s (mN h1' - mN h1) (mC h1' - mC h1) (bs w)) (F0 m 0 ((lg_sl (a.map (cv w.1)) ++ List.replicate (mxx M - (lg_sl (a.map (cv w.1))).length) Slot.unset).toArray) []) := k2
    rw [z1, z2] at k3
    exact k3
