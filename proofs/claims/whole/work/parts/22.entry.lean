/-! the start: what stands outside, the tables; then the law's body out of the abstract run -/
def h0 (L : Nat) (xs : Nat → Int32) : Mem := (xI xs, fun _ _ => 0, xR, xS L, 8, 0)
theorem xS_hi (L : Nat) : ∀ a, 8 ≤ a → xS L a = (0, 0) := by
  intro a h
  rcases a with _ | _ | _ | _ | _ | _ | _ | _ | a <;> first | omega | rfl
theorem ex_fun {α β : Type} {r : α → β → Prop} (h : ∀ x, ∃ y, r x y) : ∃ f : α → β, ∀ x, r x (f x) := ⟨fun x => Classical.choose (h x), fun x => Classical.choose_spec (h x)⟩
def fl : List Cond := flatC (Jvm.Cond.and given_1 narrow_1)
def tmS (i : Nat) : Term := Term.string "QuiverKin$Tape" (if i = 0 then xk2 else xk3)
def tmL : Term := Term.static "QuiverKin" "LOSING" "[I"
set_option maxRecDepth 100000 in
theorem fl_1 : ∀ i, i < 2 → Cond.exactly (tmS i) "java/lang/String" ∈ fl ∧ Cond.eq (.field (tmS i) "java/lang/String" "coder" "B") (.int 0) ∈ fl ∧ Cond.arrayOf (.field (tmS i) "java/lang/String" "value" "[B") .byte ∈ fl ∧ Cond.eq (.length (.field (tmS i) "java/lang/String" "value" "[B")) (.int (Int32.ofNat ([xn2, xn3].getD i 0))) ∈ fl := by decide +kernel
def el2 (i j : Nat) : Cond := Cond.eq (.elem (.field (tmS i) "java/lang/String" "value" "[B") (.int (Int32.ofNat j))) (.int (([xb2, xb3].getD i []).getD j 0))
set_option maxRecDepth 100000 in
theorem fl_2a : (fl.drop 198).take 11 = (List.range 11).map (el2 0) := by decide +kernel
set_option maxRecDepth 100000 in
theorem fl_2b : (fl.drop 63).take 131 = (List.range 131).map (el2 1) := by decide +kernel
theorem fl_2 : ∀ i, i < 2 → ∀ j, j < [xn2, xn3].getD i 0 → Cond.eq (.elem (.field (tmS i) "java/lang/String" "value" "[B") (.int (Int32.ofNat j))) (.int (([xb2, xb3].getD i []).getD j 0)) ∈ fl := by
  intro i hi j hj
  rcases (show i = 0 ∨ i = 1 by omega) with rfl | rfl
  · refine List.mem_of_mem_drop (i := 198) (List.mem_of_mem_take (i := 11) ?_)
    rw [fl_2a]
    have hjj : ∀ j, j < [xn2, xn3].getD 0 0 → j < 11 := fun j h => h
    exact List.mem_map.mpr ⟨j, List.mem_range.mpr (hjj j hj), rfl⟩
  · refine List.mem_of_mem_drop (i := 63) (List.mem_of_mem_take (i := 131) ?_)
    rw [fl_2b]
    have hjj : ∀ j, j < [xn2, xn3].getD 1 0 → j < 131 := fun j h => h
    exact List.mem_map.mpr ⟨j, List.mem_range.mpr (hjj j hj), rfl⟩
set_option maxRecDepth 100000 in
theorem fl_3 : ∀ i j, i < 2 → j < 2 → i ≠ j → Cond.not (Cond.eq (tmS i) (tmS j)) ∈ fl ∨ Cond.not (Cond.eq (tmS j) (tmS i)) ∈ fl := by
  have h : Cond.not (Cond.eq (tmS 1) (tmS 0)) ∈ fl ∨ Cond.not (Cond.eq (tmS 0) (tmS 1)) ∈ fl := by decide +kernel
  intro i j hi hj hne
  rcases (show (i = 0 ∧ j = 1) ∨ (i = 1 ∧ j = 0) by omega) with ⟨rfl, rfl⟩ | ⟨rfl, rfl⟩
  · exact h.symm
  · exact h
set_option maxRecDepth 100000 in
theorem fl_4 : Cond.arrayOf tmL .int ∈ fl ∧ Cond.eq (.length tmL) (.int (Int32.ofNat 23)) ∈ fl ∧ ∀ j, j < 23 → Cond.eq (.elem tmL (.int (Int32.ofNat j))) (.int (xlos.getD j 0)) ∈ fl := by decide +kernel
set_option maxRecDepth 100000 in
theorem fl_5 : Cond.eq (Term.static "java/lang/String" "COMPACT_STRINGS" "Z") (.int 1) ∈ fl ∧ Cond.isRef (Term.static "jdk/internal/util/Preconditions" "SIOOBE_FORMATTER" "Ljava/util/function/BiFunction;") ∈ fl := by decide +kernel
set_option maxRecDepth 100000 in
theorem tb_1 : ∀ w ∈ [Cond.stringRef "QuiverKin$Tape" xk2 xtx2, Cond.stringRef "QuiverKin$Tape" xk3 xtx3, Cond.arrayOver (.object "QuiverKin$Table"), Cond.arrayOver (.object "QuiverKin$Text"), Cond.laysStatic "QuiverKin" "LOSING" "[I", Cond.laysStatic "java/lang/String" "COMPACT_STRINGS" "Z", Cond.laysStatic "jdk/internal/util/Preconditions" "SIOOBE_FORMATTER" "Ljava/util/function/BiFunction;", Cond.initialized "QuiverKin", Cond.initialized "java/lang/String", Cond.initialized "jdk/internal/util/Preconditions"] , w ∈ lw_tbl := by decide +kernel
theorem entry_K {b : Nat} {s : State} (hts : ∀ w ∈ lw_tbl, w.before #[Value.ref b] s = true) : ∃ (D : va_G) (AC : Nat → ClassId), va_K D clv (tysv AC) s := by
  have h1 : ∀ ci : Nat, ∃ q : ClassId × (Nat → Nat), ci < 12 → u_Kn s (CN ci) (TT ci) (nf ci) q.1 q.2 := by
    intro ci
    by_cases h : ci < 12
    · obtain ⟨cC, iS, hk⟩ := u_known hts (fun w hw => Wds_in w (w_lays h w hw)) (hts _ (Wds_in _ (w_insC h)))
      exact ⟨(cC, iS), fun _ => hk⟩
    · exact ⟨(0, fun _ => 0), fun q => absurd q h⟩
  obtain ⟨F, hF⟩ := ex_fun h1
  have h2 : ∀ k : Nat, ∃ cA : ClassId, okA k → ArrOfT s cA (tyK k) ∧ va_RA s cA (tyK k) := by
    intro k
    by_cases h : okA k
    · have prim : ∀ ty : FieldType, (Cond.arrayClass ty).before #[Value.ref b] s = true → (∀ cA : ClassId, s.vm.findClass ("[" ++ ty.toString) = some cA → va_RA s cA ty) → ∃ cA : ClassId, ArrOfT s cA ty ∧ va_RA s cA ty := by
        intro ty hw hra
        obtain ⟨cA, kA, comp, e1, e2, e3⟩ := Cond.arrayClass_spec hw
        exact ⟨cA, fun n z => ⟨fun k h => (by cases h), kA, e2, comp, e3⟩, hra cA e1⟩
      have over : ∀ C : String, (Cond.arrayOver (.object C)).before #[Value.ref b] s = true → ∃ cA : ClassId, ArrOfT s cA (.object C) ∧ va_RA s cA (.object C) := by
        intro C hw
        obtain ⟨comp, cA, kA, e1, e2, e3, e4, e5⟩ := Cond.arrayOver_spec hw
        exact ⟨cA, fun n z => ⟨fun k h => (by cases h), kA, e3, comp, e4⟩, kA, comp, e3, e4, e1, e5⟩
      rcases h with rfl | rfl | rfl | rfl | rfl
      · obtain ⟨cA, q⟩ := prim .int (hts _ (Wds_in _ (w_sp 0 rfl))) (fun _ q => q); exact ⟨cA, fun _ => q⟩
      · obtain ⟨cA, q⟩ := prim .boolean (hts _ (Wds_in _ (w_sp 1 rfl))) (fun _ q => q); exact ⟨cA, fun _ => q⟩
      · obtain ⟨cA, q⟩ := prim .long (hts _ (Wds_in _ (w_sp 2 rfl))) (fun _ q => q); exact ⟨cA, fun _ => q⟩
      · obtain ⟨cA, q⟩ := over "QuiverKin$Table" (hts _ (tb_1 _ (List.mem_of_getElem? (i := 2) rfl))); exact ⟨cA, fun _ => q⟩
      · obtain ⟨cA, q⟩ := over "QuiverKin$Text" (hts _ (tb_1 _ (List.mem_of_getElem? (i := 3) rfl))); exact ⟨cA, fun _ => q⟩
    · exact ⟨0, fun q => absurd q h⟩
  obtain ⟨AC, hAC⟩ := ex_fun h2
  refine ⟨(fun ci => (F ci).1, fun ci => (F ci).2), AC, fun ci q hq => ?_, fun k q hq => ?_⟩
  · have hlt : ci < 12 := (List.getElem?_eq_some_iff.mp hq).1
    rw [clv_at hlt] at hq
    cases hq
    exact hF ci hlt
  · rcases k with _ | _ | _ | _ | _ | k
    · cases hq; exact hAC 1 (Or.inl rfl)
    · cases hq; exact hAC 2 (Or.inr (Or.inl rfl))
    · cases hq; exact hAC 3 (by unfold okA; omega)
    · cases hq; exact hAC 5 (by unfold okA; omega)
    · cases hq; exact hAC 6 (by unfold okA; omega)
    · simp [tysv] at hq
theorem entry_kf {p : Program} {s : State} {m : MethodId} {meth : Method} {c : Code} {b L : Nat} {xs : Nat → Int32} (C0 : lw_At p s m meth c b L xs) (hL : L ≤ 3072) : ∃ w : WX, w.2.1 = s.heap.size ∧ Wok w ∧ w.1 6 = b ∧ w.2.2.2.2.1 = L ∧ w.2.2.2.2.2 = xs ∧ Kf w s s.heap := by
  obtain ⟨-, -, -, -, -, hts, hX, hb, -, hgv⟩ := C0
  have hs : ∀ q ∈ fl, q.before #[Value.ref b] s = true := flat_of_before _ hgv
  have hA : ∀ a : Nat, a < s.heap.size → ¬ (fun q : Nat => s.heap.size ≤ q) a := fun a h q => Nat.not_le.mpr h q
  obtain ⟨D, AC, hK⟩ := entry_K hts
  obtain ⟨adK, adV, hS, hSe⟩ := vk_Sof (args := #[Value.ref b]) (s := s) (N := 2) (tm := tmS) (len := [xn2, xn3]) (byt := [xb2, xb3]) (A := fun q => s.heap.size ≤ q) (by decide) (fun i hi => hs _ (fl_1 i hi).1) (fun i hi => hs _ (fl_1 i hi).2.1) (fun i hi => hs _ (fl_1 i hi).2.2.1) (fun i hi => hs _ (fl_1 i hi).2.2.2) (fun i hi j hj => hs _ (fl_2 i hi j hj)) (fun i j hi hj hne => (fl_3 i j hi hj hne).imp (hs _) (hs _)) hA
  obtain ⟨tL, hL1, hL2⟩ := va_Tof (args := #[Value.ref b]) (s := s) (tm := tmL) (ty := .int) (N := 23) (f := fun j => .int (xlos.getD j 0)) (A := fun q => s.heap.size ≤ q) (by decide) (hs _ fl_4.1) (va_eqt (hs _ fl_4.2.1)) (fun j hj => va_eqt (hs _ (fl_4.2.2 j hj))) hA
  obtain ⟨vS, hS1, hS2⟩ := Cond.isRef_spec (hs _ fl_5.2)
  obtain ⟨k7, hk7⟩ : ∃ k7 : Nat, vS = (match k7 with | 0 => .null | n + 1 => .ref n) := by
    cases vS with
    | null => exact ⟨0, rfl⟩
    | ref a => exact ⟨a + 1, rfl⟩
    | _ => cases hS2
  have hTs : va_T .int b L (fun j => .int (xs j)) (fun q => s.heap.size ≤ q) s s.heap := by
    obtain ⟨scr, x1, x2, x3, x4, x5⟩ := hX
    exact ⟨scr, x1, x2, x3, Nat.le_of_eq x4.symm, by rw [x4], x5, hA b hb⟩
  let φ : Nat → Nat := fun k => if k = 1 then tL else if k = 2 then adK 0 else if k = 3 then adK 1 else if k = 4 then adV 0 else if k = 5 then adV 1 else if k = 6 then b else if k = 7 then k7 else s.heap.size + (k - 8)
  refine ⟨(φ, s.heap.size, D, AC, L, xs), rfl, ?_, rfl, rfl, rfl, hK, hts _ (tb_1 _ (List.mem_of_getElem? (i := 2) rfl)), hts _ (tb_1 _ (List.mem_of_getElem? (i := 3) rfl)), vk_R.of (hts _ (tb_1 _ (List.mem_of_getElem? (i := 0) rfl))) (hSe 0 (by decide)), vk_R.of (hts _ (tb_1 _ (List.mem_of_getElem? (i := 1) rfl))) (hSe 1 (by decide)), ?_, hL2, hTs, va_Zref (hts _ (tb_1 _ (List.mem_of_getElem? (i := 4) rfl))) (hts _ (tb_1 _ (List.mem_of_getElem? (i := 7) rfl))) hL1 hA, va_Zof (hts _ (tb_1 _ (List.mem_of_getElem? (i := 5) rfl))) (hts _ (tb_1 _ (List.mem_of_getElem? (i := 8) rfl))) (va_eqi (hs _ fl_5.1)) hA, ?_⟩
  · intro a ha
    show φ a = _
    simp only [φ]
    rw [if_neg (by omega), if_neg (by omega), if_neg (by omega), if_neg (by omega), if_neg (by omega), if_neg (by omega), if_neg (by omega)]
  · refine ⟨fun i hi => ?_, fun i j hi hj e => ?_⟩
    · have := hS.1 i hi
      rcases (show i = 0 ∨ i = 1 by omega) with rfl | rfl
      · exact this
      · exact this
    · have := hS.2 i j hi hj
      rcases (show i = 0 ∨ i = 1 by omega) with rfl | rfl <;> rcases (show j = 0 ∨ j = 1 by omega) with rfl | rfl <;> first | rfl | exact this e
  · have e : opq φ = vS := by rw [hk7]; rfl
    show va_Z _ _ _ (opq φ) _ s s.heap
    rw [e]
    exact va_Zof (hts _ (tb_1 _ (List.mem_of_getElem? (i := 6) rfl))) (hts _ (tb_1 _ (List.mem_of_getElem? (i := 9) rfl))) hS1 hA
set_option maxRecDepth 100000 in
theorem law_ret1 : (op_Law_law.all fun o => !isRet o.2.1 || (decide (o.2.1 = .ireturn) && decide (o.2.2.1 = 1) && decide (o.2.2.2.2.2.1 = 1))) = true := by decide +kernel
theorem law_ret (o : Op) (ho : o ∈ PP m_Law_law) (hb : isRet o.2.1 = true) : o.2.1 = .ireturn ∧ o.2.2.1 = 1 ∧ o.2.2.2.2.2.1 = 1 := by
  rw [pp_Law_law] at ho
  have := List.all_eq_true.mp law_ret1 o ho
  rw [hb] at this
  simp only [Bool.not_true, Bool.false_or, Bool.and_eq_true, decide_eq_true_eq] at this
  exact ⟨this.1.1, this.1.2, this.2⟩
/-- THEOREM B's shape: the abstract law answers 1 within the room -/
def LawOk (L : Nat) (xs : Nat → Int32) : Prop := ∃ h', cA m_Law_law [.ref 6] (h0 L xs) = some (.int 1, h') ∧ mN h' ≤ 600008 ∧ mC h' ≤ 7302250
set_option maxHeartbeats 1000000 in
theorem start_of {p : Program} {e : Env} {s : State} {m : MethodId} {below : List Frame} {meth : Method} {c : Code} (l : Launch) {b L : Nat} {xs : Nat → Int32} (hL : L ≤ 3072) (C0 : lw_At p s m meth c b L xs) (hB : LawOk L xs) : W p l e room_1 s m #[Value.ref b] below meth c s.heap [] 0 0 (lw_Z below #[Value.ref b] s) (entryFrame m ([Value.ref b] : List Value).toArray 4) := by
  obtain ⟨w, wb, wok, w6, wL, wxs, hKf⟩ := entry_kf C0 hL
  obtain ⟨hx, hb, hr, hml, hown, hts, hX, hbl, hlocks, hgv⟩ := id C0
  obtain ⟨h', ec, hN, hC⟩ := hB
  rw [cA_rX] at ec
  have ec := (grd_some ec).2
  have hrk : rkk m_Law_law [.ref 6] = m_Law_law := rfl
  rw [hrk] at ec
  obtain ⟨n, en⟩ := (runA_some (calA_mono PP KK mxx rkk rcc m_Law_law)).mp ec
  have C : Ctx w (p, l, e, room_1, s, m, #[Value.ref b], below, meth, c, lw_Z below #[Value.ref b] s, 8, 0) m_Law_law :=
    ⟨hx, hb, hml, hown, fun q hq => hts q (Wds_in q hq), hKf, hlocks, fun q => absurd q (by decide), by show w.2.1 ≤ s.heap.size; rw [wb]; exact Nat.le_refl _, wok⟩
  have hW : Wr w (h0 L xs) s.heap := by
    refine ⟨by rw [wb]; rfl, Nat.le_refl _, fun a ha => xS_hi L a ha, ?_, fun a h1 h2 => ?_⟩
    · rw [wL, wxs]
      exact fun a _ => ⟨rfl, rfl, rfl⟩
    · have : mN (h0 L xs) = 8 := rfl
      omega
  have k := run_sim C (r := m_Law_law) ⟨(by decide : m_Law_law + 1 ≤ 2048), (by decide : 64 * (m_Law_law + 1) ≤ 84000)⟩ (sound wok l m_Law_law) gd_Law_law (yy := (.int 1, h')) ⟨by show mN h' - 8 ≤ 600000; omega, by show mC h' - 0 ≤ 7302250; omega⟩ (fun o ho hb2 hd hc nx jp Lc S h ee => ?_) n 0 _ [] (h0 L xs) ⟨Nat.le_refl _, Nat.le_refl _⟩ en
  · rw [lg_entry_eq]
    have e6 : ([.ref 6] : List Value).map (cv w.1) = [.ref b] := by
      show [Value.ref (w.1 6)] = _
      rw [w6]
    have k2 := k s.heap [] _ hW va_S.rf (lr_entry (φ := w.1) [.ref 6] (mxx m_Law_law) (by decide))
    rw [e6] at k2
    exact k2
  · obtain ⟨pc, i, len, u, y, z, v, sw⟩ := o
    dsimp only at hb2 hd ⊢
    have hri : i = .ireturn ∧ len = 1 ∧ z = 1 := law_ret _ ho hb2
    obtain ⟨rfl, rfl, rfl⟩ := hri
    rcases S with _ | ⟨v1, S⟩
    · exact (nn ee).elim
    cases v1 with
    | int c1 =>
      rcases S with _ | ⟨v2, S⟩
      · have ee : (if c1 = 0 ∨ c1 = 1 then some (Value.int c1, h) else none) = some (.int 1, h') := ee
        split at ee
        · cases ee
          intro H locs ls hW2 hS2 hL2
          show W p l e room_1 s m #[Value.ref b] below meth c H locs (mN h' - 8) (mC h' - 0) (lw_Z below #[Value.ref b] s) (F0 m pc ls [.int 1])
          refine va_forget (fun q hq => by have := hS2.2.2 q hq; rw [← wb]; exact this) ?_
          refine W.widen (k := 600000) (n := 7302250) (by omega) (by omega) ?_
          exact lw_ret hx hb hr hlocks hd
        · exact (nn ee).elim
      · exact (nn ee).elim
    | _ => exact (nn ee).elim
