/-! calls -/
def rm_ (r mc ms : Nat) : Room := { frames := r + 1, cells := mc, slots := ms, locals := 64 * (r + 1) }
def wsM (M : Nat) : List Cond := Cond.code (yM M) (bM M) (mxx M) (rM M) :: Wds
def cvO (φ : Nat → Nat) : Value → Option Value
  | .null => none
  | v => some (cv φ v)
/-- a method's start: its arguments and the world; its end: the answer and the world behind it -/
def PcM (w : WX) (a : List Value) (h : Mem) : Array Value → State → Prop := va_Pc (a.map (cv w.1)) (fun U => Wr w h U.heap ∧ Kf w U U.heap)
def QcM (w : WX) (v : Value) (h' : Mem) : Array Value → State → Outcome → State → Prop := fun _ st oc t => oc = .returned (cvO w.1 v) ∧ Wr w h' t.heap ∧ va_F (bs w) st t
def MetM (w : WX) (l : Launch) (M : Nat) (a : List Value) (h : Mem) (v : Value) (h' : Mem) : Prop := Met l (yM M) (wsM M) (rm_ (rkk M a) (mN h' - mN h) (mC h' - mC h)) (PcM w a h) (QcM w v h') (mN h' - mN h) (mC h' - mC h) (bs w)
section
variable {w : WX} {x : FX} {M pc : Nat} {Lc T : List Value} {h : Mem}
theorem PcM_blind (a : List Value) (h : Mem) : FrameBlind (PcM w a h) := by
  intro b U g mk ⟨e, hW, hK⟩
  exact ⟨e, hW, hK.same rfl⟩
theorem PcM_at {H : Heap} {locs : List Loc} (C : Ctx w x M) (hW : Wr w h H) (hS : va_S (bs w) (xs_ x).heap H locs) (a : List Value) : ∀ U : State, U.heap = H → (xs_ x).WarmedH U.vm → PcM w a h (a.map (cv w.1)).toArray U := by
  intro U hU hV
  obtain ⟨c1, c2, c3, c4, c5, c6, c7, c8, c9, c10⟩ := C
  refine ⟨rfl, by rw [hU]; exact hW, ?_⟩
  rw [hU]
  exact c6.mv hV fun q h1 h2 => hS.2.1 q h1 h2
/-- behind a call -/
theorem g_back (c10 : Wok w) {H : Heap} {locs : List Loc} {ls : Array Slot} {a : Array Value} {v : Value} {h' : Mem} {st0 T' : List Value} (hL : LR w.1 ls (mxx M) Lc) (hS : va_S (bs w) (xs_ x).heap H locs) (hle : le h h') (h0 : xn0 x ≤ mN h ∧ xc0 x ≤ mC h) (hT : ∃ u, T' = u ++ T ∧ (cvO w.1 v).toList = u.map (cv w.1))
    (hr : va_Run (xp x) (xl x) (xe x) (xRm x) (xs_ x) (xm x) (xa x) (xb x) (xM_ x) (xc x) H locs (mN h - xn0 x) (mC h - xc0 x) (mN h' - mN h) (mC h' - mC h) (F0 (xm x) pc ls st0) (T.map (cv w.1)) (QcM w v h' a) (bs w)) (kk : GW w x M (pc + 3) Lc T' h') : Wg x H locs (mN h - xn0 x) (mC h - xc0 x) (F0 (xm x) pc ls st0) := by
  intro S hS1 X
  obtain ⟨v1, st₀, t, T2, L2, e0, X2, hL2, e1, e2, ⟨q1, q2, q3⟩, st⟩ := hr S hS1 X
  cases q1
  obtain ⟨u, rfl, hu⟩ := hT
  have hsz : H.size ≤ T2.heap.size ∧ ∀ q, q < H.size → ¬ bs w q → T2.heap[q]? = H[q]? := by
    rw [e1]
    have f := q3
    rw [va_F, e0] at f
    exact f
  have k1 := kk T2.heap (locs ++ L2) ls (by rw [e1]; exact q2) ⟨Nat.le_trans hS.1 hsz.1, fun q g1 g2 => (hsz.2 q (Nat.lt_of_lt_of_le g1 hS.1) g2).trans (hS.2.1 q g1 g2), fun q hq => by
    rcases List.mem_append.mp hq with g | g
    · exact hS.2.2 q g
    · exact hL2 q g⟩ hL
  have n1 : mN h - xn0 x + (mN h' - mN h) = mN h' - xn0 x := by have := hle.1; omega
  have n2 : mC h - xc0 x + (mC h' - mC h) = mC h' - xc0 x := by have := hle.2; omega
  rw [n1, n2] at X2
  rw [List.map_append, ← hu] at k1
  obtain ⟨t2, a1, b1⟩ := k1 T2 rfl X2
  exact ⟨t2, st t2 a1, b1⟩
theorem catS_map (φ : Nat → Nat) : ∀ T : List Value, ((T.map (cv φ)).map fun v => v.category).sum = catS T
  | [] => rfl
  | v :: T => by
    rw [List.map_cons, List.map_cons, List.sum_cons, catS_map φ T, cv_cat]
    cases v <;> rfl
theorem WdsM {args : Array Value} {s : State} (hts : ∀ v ∈ Wds, v.before args s = true) {M' : Nat} (h : M' ∈ idsT) : ∀ v ∈ wsM M', ∀ (a' : Array Value) (U : State), s.WarmedH U.vm → v.before a' U = true := by
  intro v hv
  rcases List.mem_cons.mp hv with q | q
  · rw [q]; exact Wds_pay hts _ (w_code h)
  · exact Wds_pay hts _ q
theorem y_ok : ∀ M ∈ idsT, ((yM M).cls ≠ "java/lang/invoke/MethodHandle" ∧ (yM M).cls ≠ "java/lang/invoke/VarHandle") ∧ mxx M ≤ 45 := by decide +kernel
def npar (M : Nat) : Nat := match parseMethodDescriptor (yM M).desc with
  | some d => d.parameters.length
  | none => 0
theorem par_ok : ∀ M ∈ idsT, (parseMethodDescriptor (yM M).desc).isSome = true := by decide +kernel
theorem npar_ok {M : Nat} {n : Nat} (hn : n = npar M) : ∀ sig, parseMethodDescriptor (yM M).desc = some sig → n = sig.parameters.length := by
  intro sig e
  rw [hn]
  unfold npar
  rw [e]
/-- what every call of a method needs -/
theorem calMM (C : Ctx w x M) {M' idx n : Nat} {a : List Value} {h' : Mem} (hM : M' ∈ idsT) (hrk : rkk M' a + 1 + 1 ≤ (xRm x).frames ∧ 64 * (rkk M' a + 1) + 64 ≤ (xRm x).locals) (hl : (gM M, idx, M', false) ∈ ML) (hn : n = npar M') : CallB (xRm x) (xs_ x) (xa x) (ON (gM M)) idx (yM M') (bM M') (mxx M') (rM M') (wsM M') (rm_ (rkk M' a) (mN h' - mN h) (mC h' - mC h)) (mN h' - mN h) (mC h' - mC h) n := by
  obtain ⟨c1, c2, c3, c4, c5, c6, c7, c8, c9, c10⟩ := C
  obtain ⟨y1, y2⟩ := y_ok M' hM
  exact ⟨rfl, rfl, hrk.1, by show 8 + (mxx M' + 11) + 64 * (rkk M' a + 1) ≤ _; omega, WdsM c5 hM, List.mem_cons_self, c5 _ (w_code hM), c5 _ (w_ini hM), y1, npar_ok hn, c5 _ (w_ML hl)⟩
theorem calNN (C : Ctx w x M) {M' idx n : Nat} {a : List Value} {h' : Mem} (hM : M' ∈ idsT) (hrk : rkk M' a + 1 + 1 ≤ (xRm x).frames ∧ 64 * (rkk M' a + 1) + 64 ≤ (xRm x).locals) (hl : (gM M, idx, M', true) ∈ ML) (hn : n = npar M') : va_CN (xRm x) (xs_ x) (xa x) (ON (gM M)) idx (yM M') "QuiverKin" (bM M') (mxx M') (rM M') (wsM M') (rm_ (rkk M' a) (mN h' - mN h) (mC h' - mC h)) (mN h' - mN h) (mC h' - mC h) n := by
  obtain ⟨c1, c2, c3, c4, c5, c6, c7, c8, c9, c10⟩ := C
  obtain ⟨y1, y2⟩ := y_ok M' hM
  exact ⟨⟨rfl, rfl, hrk.1, by show 8 + (mxx M' + 11) + 64 * (rkk M' a + 1) ≤ _; omega, WdsM c5 hM, List.mem_cons_self⟩, c5 _ (w_code hM), c5 _ (w_ini hM), y1, npar_ok hn, c5 _ (w_ML hl)⟩
theorem fixM (C : Ctx w x M) : CallFix (xp x) (xm x) (xc x) (bM M) (mxx M) (xs_ x) (xa x) Wds (ON (gM M)) := ⟨C.1, C.2.1, C.2.2.1, C.2.2.2.1, C.2.2.2.2.1⟩
/-- a static call -/
theorem g_stat (C : Ctx w x M) {M' idx : Nat} {b : Bool} {a : List Value} {v : Value} {h' : Mem} {T' : List Value} (hM : M' ∈ idsT) (hst : stM M' = true) (hrk : rkk M' a + 1 + 1 ≤ (xRm x).frames ∧ 64 * (rkk M' a + 1) + 64 ≤ (xRm x).locals) (hl : (gM M, idx, M', b) ∈ ML) (hn : a.length = npar M') (hcat : catS T ≤ 8) (hle : le h h') (h0 : xn0 x ≤ mN h ∧ xc0 x ≤ mC h) (hr : mN h' - xn0 x ≤ (xRm x).cells ∧ mC h' - xc0 x ≤ (xRm x).slots) (hI : MetM w (xl x) M' a h v h') (hT : ∃ u, T' = u ++ T ∧ (cvO w.1 v).toList = u.map (cv w.1)) (hd : decode (bM M) pc = .ok (.invokestatic idx, 3)) (kk : GW w x M (pc + 3) Lc T' h') : GW w x M pc Lc (a.reverse ++ T) h := by
  intro H locs ls hW hS hL
  have hcells : mN h - xn0 x + (mN h' - mN h) ≤ (xRm x).cells ∧ mC h - xc0 x + (mC h' - mC h) ≤ (xRm x).slots := by have := hle.1; have := hle.2; omega
  have hls : ls.size = mxx M := by obtain ⟨lv, g, -⟩ := hL; exact g.1
  have hst' : ∀ T0, (a.reverse ++ T0 : List Value).map (cv w.1) = (a.map (cv w.1)).reverse ++ T0.map (cv w.1) := fun T0 => by rw [List.map_append, List.map_reverse]
  rw [hst']
  have hroom : 2 * (F0 (xm x) pc ls ((a.map (cv w.1)).reverse ++ T.map (cv w.1))).monitorRoom + ((T.map (cv w.1)).map fun v => v.category).sum ≤ 8 := lv_room (by rw [catS_map]; exact hcat)
  have hp : PreS (xs_ x) H (PcM w a h) (a.map (cv w.1)) := ⟨PcM_blind a h, PcM_at C hW hS a⟩
  refine g_back (a := (a.map (cv w.1)).toArray) C.2.2.2.2.2.2.2.2.2 hL hS hle h0 hT ?_ kk
  cases b with
  | false => exact va_runS (fixM C) hI ⟨calMM C hM hrk hl rfl, C.2.2.2.2.1 _ (w_stat hM hst)⟩ hp rfl (by rw [List.length_map]; exact hn) hls rfl hroom hd hcells
  | true => exact va_runSN (fixM C) hI ⟨calNN C hM hrk hl rfl, C.2.2.2.2.1 _ (w_stat hM hst), trivial⟩ hp rfl (by rw [List.length_map]; exact hn) hls rfl hroom hd hcells
/-- a constructor's call -/
theorem g_spec (C : Ctx w x M) {M' idx o : Nat} {b : Bool} {a : List Value} {v : Value} {h' : Mem} {T' : List Value} (hM : M' ∈ idsT) (hst : stM M' = false) (hnm : (yM M').name = "<init>") (hrt : rM M' = none) (ho : o ≠ 0) (hrk : rkk M' (.ref o :: a) + 1 + 1 ≤ (xRm x).frames ∧ 64 * (rkk M' (.ref o :: a) + 1) + 64 ≤ (xRm x).locals) (hl : (gM M, idx, M', b) ∈ ML) (hn : a.length = npar M') (hcat : catS T ≤ 8) (hle : le h h') (h0 : xn0 x ≤ mN h ∧ xc0 x ≤ mC h) (hr : mN h' - xn0 x ≤ (xRm x).cells ∧ mC h' - xc0 x ≤ (xRm x).slots) (hI : MetM w (xl x) M' (.ref o :: a) h v h') (hT : ∃ u, T' = u ++ T ∧ (cvO w.1 v).toList = u.map (cv w.1)) (hd : decode (bM M) pc = .ok (.invokespecial idx, 3)) (kk : GW w x M (pc + 3) Lc T' h') : GW w x M pc Lc (a.reverse ++ .ref o :: T) h := by
  intro H locs ls hW hS hL
  have hcells : mN h - xn0 x + (mN h' - mN h) ≤ (xRm x).cells ∧ mC h - xc0 x + (mC h' - mC h) ≤ (xRm x).slots := by have := hle.1; have := hle.2; omega
  have hls : ls.size = mxx M := by obtain ⟨lv, g, -⟩ := hL; exact g.1
  have eo : cv w.1 (.ref o) = .ref (w.1 o) := cr_ref ho
  have hst' : (a.reverse ++ .ref o :: T : List Value).map (cv w.1) = (a.map (cv w.1)).reverse ++ .ref (w.1 o) :: T.map (cv w.1) := by rw [List.map_append, List.map_reverse, List.map_cons, eo]
  rw [hst']
  have hroom : 2 * (F0 (xm x) pc ls ((a.map (cv w.1)).reverse ++ .ref (w.1 o) :: T.map (cv w.1))).monitorRoom + ((T.map (cv w.1)).map fun v => v.category).sum ≤ 8 := lv_room (by rw [catS_map]; exact hcat)
  have hp : PreS (xs_ x) H (PcM w (.ref o :: a) h) (.ref (w.1 o) :: a.map (cv w.1)) := ⟨PcM_blind _ h, by
    have := PcM_at C hW hS (.ref o :: a)
    rw [List.map_cons, eo] at this
    exact this⟩
  refine g_back (a := (Value.ref (w.1 o) :: a.map (cv w.1)).toArray) C.2.2.2.2.2.2.2.2.2 hL hS hle h0 hT ?_ kk
  have e1 := hI
  cases b with
  | false =>
    have cb   := calMM (h := h) (h' := h') C hM hrk hl (rfl : npar M' = npar M')
    rw [hrt] at cb
    exact va_runI (fixM C) hI ⟨cb, hnm, C.2.2.2.2.1 _ (w_inst hM hst)⟩ hp rfl (by rw [List.length_map]; exact hn) hls rfl hroom hd hcells
  | true =>
    have cb := calNN (h := h) (h' := h') C hM hrk hl (rfl : npar M' = npar M')
    rw [hrt] at cb
    exact va_runIN (fixM C) hI ⟨cb, hnm, C.2.2.2.2.1 _ (w_inst hM hst)⟩ hp rfl (by rw [List.length_map]; exact hn) hls rfl hroom hd hcells
/-- who is called stands as an object of the method's class -/
def kdW (M : Nat) : Nat := allKd.getD M 0
theorem kd_ok : ∀ M ∈ idsV, M ∈ idsT ∧ stM M = false ∧ ((16 ≤ kdW M ∧ kdW M < 28 ∧ (yM M).cls = CN (kdW M - 16)) ∨ (kdW M = 28 ∧ (yM M).cls = "java/lang/String")) := by decide +kernel
theorem g_virt (C : Ctx w x M) {M' idx o : Nat} {b : Bool} {a : List Value} {v : Value} {h' : Mem} {T' : List Value} (hM : M' ∈ idsV) (hk : (mS h o).1 = kdW M') (hrk : rkk M' (.ref o :: a) + 1 + 1 ≤ (xRm x).frames ∧ 64 * (rkk M' (.ref o :: a) + 1) + 64 ≤ (xRm x).locals) (hl : (gM M, idx, M', b) ∈ ML) (hn : a.length = npar M') (hcat : catS T ≤ 8) (hle : le h h') (h0 : xn0 x ≤ mN h ∧ xc0 x ≤ mC h) (hr : mN h' - xn0 x ≤ (xRm x).cells ∧ mC h' - xc0 x ≤ (xRm x).slots) (hI : MetM w (xl x) M' (.ref o :: a) h v h') (hT : ∃ u, T' = u ++ T ∧ (cvO w.1 v).toList = u.map (cv w.1)) (hd : decode (bM M) pc = .ok (.invokevirtual idx, 3)) (kk : GW w x M (pc + 3) Lc T' h') : GW w x M pc Lc (a.reverse ++ .ref o :: T) h := by
  intro H locs ls hW hS hL
  obtain ⟨hMT, hst, hcl⟩ := kd_ok M' hM
  have hcells : mN h - xn0 x + (mN h' - mN h) ≤ (xRm x).cells ∧ mC h - xc0 x + (mC h' - mC h) ≤ (xRm x).slots := by have := hle.1; have := hle.2; omega
  have hls : ls.size = mxx M := by obtain ⟨lv, g, -⟩ := hL; exact g.1
  have hrec : o ≠ 0 ∧ ∃ cellB : Cell, H[w.1 o]? = some cellB ∧ cellB.vm.isStatics = false ∧ (xs_ x).vm.findClass (yM M').cls = some cellB.cls := by
    obtain ⟨c1, c2, c3, c4, c5, c6, c7, c8, c9, c10⟩ := C
    rcases hcl with ⟨k1, k2, k3⟩ | ⟨k1, k2⟩
    · have hci : kdW M' - 16 < 12 := by omega
      obtain ⟨g1, g2, cell, q1, q2, q3, q4⟩ := wko hW (a := o) hci (by rw [hk]; omega)
      have hfc := (c6.1.1 (kdW M' - 16) _ (clv_at hci)).2.1
      exact ⟨by omega, cell, q1, by rw [q3]; rfl, by rw [k3, q2]; exact hfc⟩
    · rw [k1] at hk
      have ho : o = 2 ∨ o = 3 := by
        obtain ⟨w1, w2, w3, w4, w5⟩ := hW
        rcases Nat.lt_or_ge o 8 with q | q
        · have e := (w4 o q).1
          rw [e] at hk
          rcases o with _ | _ | _ | _ | _ | _ | _ | _ | o
          · cases hk
          · cases hk
          · exact Or.inl rfl
          · exact Or.inr rfl
          · cases hk
          · cases hk
          · cases hk
          · cases hk
          · omega
        · exfalso
          rcases Nat.lt_or_ge o (mN h) with g | g
          · have c := w5 o q g
            unfold CR at c
            rw [if_neg (by rw [hk]; omega), hk] at c
            exact absurd c.1 (by decide)
          · rw [w3 o g] at hk; cases hk
      rw [k2]
      have hs := c6.2.2.2.2.2.1
      rcases ho with rfl | rfl
      · exact ⟨by decide, va_Orecv (hs.1 0 (by decide)).1 hS⟩
      · exact ⟨by decide, va_Orecv (hs.1 1 (by decide)).1 hS⟩
  have eo : cv w.1 (.ref o) = .ref (w.1 o) := cr_ref hrec.1
  have hst' : (a.reverse ++ .ref o :: T : List Value).map (cv w.1) = (a.map (cv w.1)).reverse ++ .ref (w.1 o) :: T.map (cv w.1) := by rw [List.map_append, List.map_reverse, List.map_cons, eo]
  rw [hst']
  have hroom : 2 * (F0 (xm x) pc ls ((a.map (cv w.1)).reverse ++ .ref (w.1 o) :: T.map (cv w.1))).monitorRoom + ((T.map (cv w.1)).map fun v => v.category).sum ≤ 8 := lv_room (by rw [catS_map]; exact hcat)
  have hp : PreV (xs_ x) H (yM M').cls (w.1 o) (PcM w (.ref o :: a) h) (a.map (cv w.1)) := ⟨PcM_blind _ h, hrec.2, by
    have := PcM_at C hW hS (.ref o :: a)
    rw [List.map_cons, eo] at this
    exact this⟩
  refine g_back (a := (Value.ref (w.1 o) :: a.map (cv w.1)).toArray) C.2.2.2.2.2.2.2.2.2 hL hS hle h0 hT ?_ kk
  cases b with
  | false => exact va_runV (fixM C) hI ⟨calMM C hMT hrk hl rfl, C.2.2.2.2.1 _ (w_inst hMT hst), C.2.2.2.2.1 _ (w_sel hM)⟩ hp rfl (by rw [List.length_map]; exact hn) hls rfl hroom hd hcells
  | true => exact va_runVN (fixM C) hI ⟨calNN C hMT hrk hl rfl, C.2.2.2.2.1 _ (w_inst hMT hst), C.2.2.2.2.1 _ (w_sel hM)⟩ hp rfl (by rw [List.length_map]; exact hn) hls rfl hroom hd hcells
theorem g_obj (C : Ctx w x M) {idx o : Nat} (hl : (gM M, idx) ∈ SI) (ho : o ≠ 0) (hcat : catS T ≤ 8) (hR : 1 ≤ (xRm x).frames ∧ 64 ≤ (xRm x).locals) (hd : decode (bM M) pc = .ok (.invokespecial idx, 3)) (kk : GW w x M (pc + 3) Lc T h) : GW w x M pc Lc (.ref o :: T) h := by
  intro H locs ls hW hS hL
  obtain ⟨c1, c2, c3, c4, c5, c6, c7, c8, c9, c10⟩ := C
  have hls : ls.size = mxx M := by obtain ⟨lv, g, -⟩ := hL; exact g.1
  have eo : cv w.1 (.ref o) = .ref (w.1 o) := cr_ref ho
  show Wg x H locs _ _ (F0 (xm x) pc ls (cv w.1 (.ref o) :: T.map (cv w.1)))
  rw [eo]
  exact W.objInit c1 c2 c4 (c5 _ (w_SI hl)) (c5 _ (w_sp 3 rfl)) (c5 _ (w_sp 4 rfl)) rfl (hls.trans c3.symm) rfl hd hR.1 (by show 2 * 0 + _ + 12 ≤ _; rw [catS_map]; omega) (kk H locs ls hW hS hL)
end
