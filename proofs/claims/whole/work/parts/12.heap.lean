/-! the heap's instructions -/
theorem dfl_ok : ∀ ci, ci < 12 → ∀ k, k < nf ci → (match tyF ci k with | .int => true | .boolean => true | .long => true | .object _ => true | .array _ => true | _ => false) = true := by decide +kernel
theorem own_cls : ∀ ci, ci < 12 → ∀ k, k < nf ci → (TT ci k).1 = CN ci := by decide +kernel
theorem wd_1 {w : Cond} (h : w ∈ Wk1) : w ∈ Wds := List.mem_append_left _ h
theorem wd_2 {w : Cond} (h : w ∈ Wk2) : w ∈ Wds := List.mem_append_right _ (List.mem_append_left _ h)
theorem wd_3 {w : Cond} (h : w ∈ Wk3) : w ∈ Wds := List.mem_append_right _ (List.mem_append_right _ (List.mem_append_left _ h))
theorem wd_4 {w : Cond} (h : w ∈ Wk4) : w ∈ Wds := List.mem_append_right _ (List.mem_append_right _ (List.mem_append_right _ (List.mem_append_left _ h)))
theorem wd_5 {w : Cond} (h : w ∈ Wk5) : w ∈ Wds := List.mem_append_right _ (List.mem_append_right _ (List.mem_append_right _ (List.mem_append_right _ (List.mem_append_left _ h))))
theorem wd_6 {w : Cond} (h : w ∈ Wk6) : w ∈ Wds := List.mem_append_right _ (List.mem_append_right _ (List.mem_append_right _ (List.mem_append_right _ (List.mem_append_right _ (List.mem_append_left _ h)))))
theorem wd_7 {w : Cond} (h : w ∈ Wk7) : w ∈ Wds := List.mem_append_right _ (List.mem_append_right _ (List.mem_append_right _ (List.mem_append_right _ (List.mem_append_right _ (List.mem_append_right _ (List.mem_append_left _ h))))))
theorem wd_8 {w : Cond} (h : w ∈ Wk8) : w ∈ Wds := List.mem_append_right _ (List.mem_append_right _ (List.mem_append_right _ (List.mem_append_right _ (List.mem_append_right _ (List.mem_append_right _ (List.mem_append_right _ (List.mem_append_left _ h)))))))
theorem wd_9 {w : Cond} (h : w ∈ Wk9) : w ∈ Wds := List.mem_append_right _ (List.mem_append_right _ (List.mem_append_right _ (List.mem_append_right _ (List.mem_append_right _ (List.mem_append_right _ (List.mem_append_right _ (List.mem_append_right _ (List.mem_append_left _ h))))))))
theorem wd_10 {w : Cond} (h : w ∈ Wk10) : w ∈ Wds := List.mem_append_right _ (List.mem_append_right _ (List.mem_append_right _ (List.mem_append_right _ (List.mem_append_right _ (List.mem_append_right _ (List.mem_append_right _ (List.mem_append_right _ (List.mem_append_right _ (List.mem_append_left _ h)))))))))
theorem wd_11 {w : Cond} (h : w ∈ Wk11) : w ∈ Wds := List.mem_append_right _ (List.mem_append_right _ (List.mem_append_right _ (List.mem_append_right _ (List.mem_append_right _ (List.mem_append_right _ (List.mem_append_right _ (List.mem_append_right _ (List.mem_append_right _ (List.mem_append_right _ (List.mem_append_left _ h))))))))))
theorem wd_12 {w : Cond} (h : w ∈ Wk12) : w ∈ Wds := List.mem_append_right _ (List.mem_append_right _ (List.mem_append_right _ (List.mem_append_right _ (List.mem_append_right _ (List.mem_append_right _ (List.mem_append_right _ (List.mem_append_right _ (List.mem_append_right _ (List.mem_append_right _ (List.mem_append_right _ (List.mem_append_left _ h)))))))))))
theorem wd_13 {w : Cond} (h : w ∈ Wk13) : w ∈ Wds := List.mem_append_right _ (List.mem_append_right _ (List.mem_append_right _ (List.mem_append_right _ (List.mem_append_right _ (List.mem_append_right _ (List.mem_append_right _ (List.mem_append_right _ (List.mem_append_right _ (List.mem_append_right _ (List.mem_append_right _ (List.mem_append_right _ (List.mem_append_left _ h))))))))))))
theorem wd_14 {w : Cond} (h : w ∈ Wk14) : w ∈ Wds := List.mem_append_right _ (List.mem_append_right _ (List.mem_append_right _ (List.mem_append_right _ (List.mem_append_right _ (List.mem_append_right _ (List.mem_append_right _ (List.mem_append_right _ (List.mem_append_right _ (List.mem_append_right _ (List.mem_append_right _ (List.mem_append_right _ (List.mem_append_right _ (List.mem_append_left _ h)))))))))))))
theorem wd_15 {w : Cond} (h : w ∈ Wk15) : w ∈ Wds := List.mem_append_right _ (List.mem_append_right _ (List.mem_append_right _ (List.mem_append_right _ (List.mem_append_right _ (List.mem_append_right _ (List.mem_append_right _ (List.mem_append_right _ (List.mem_append_right _ (List.mem_append_right _ (List.mem_append_right _ (List.mem_append_right _ (List.mem_append_right _ (List.mem_append_right _ (h))))))))))))))
theorem ly_all : ∀ ci, ci < 12 → ∀ k, k < nf ci → (ci, k) ∈ LY := by decide +kernel
theorem ids_S : ∀ M ∈ idsT, M ∈ idsS := by decide +kernel
theorem ini_all : ∀ M ∈ idsT, (yM M).cls = ON (gM M) ∧ gM M ∈ gsI := by decide +kernel
theorem cis_N : ∀ ci, ci < 12 → ci ∈ cisN ∧ ci ∈ cisI := by decide +kernel
theorem w_lays {ci : Nat} (h : ci < 12) : ∀ w ∈ u_ws (CN ci) (TT ci) (nf ci), w ∈ Wds := by
  intro w hw
  obtain ⟨k, hk, rfl⟩ := List.mem_map.mp hw
  exact wd_7 (List.mem_map.mpr ⟨(ci, k), ly_all ci h k (List.mem_range.mp hk), rfl⟩)
theorem w_FL {q : Nat × Nat × Nat × Nat × Bool} (h : q ∈ FL) : fW q ∈ Wds := wd_5 (List.mem_map.mpr ⟨q, h, rfl⟩)
theorem w_ML {q : Nat × Nat × Nat × Bool} (h : q ∈ ML) : mW q ∈ Wds := wd_6 (List.mem_map.mpr ⟨q, h, rfl⟩)
theorem w_code {M : Nat} (h : M ∈ idsT) : Cond.code (yM M) (bM M) (mxx M) (rM M) ∈ Wds := wd_1 (List.mem_map.mpr ⟨M, h, rfl⟩)
theorem w_stat {M : Nat} (h : M ∈ idsT) (hs : stM M = true) : Cond.static (yM M) ∈ Wds := wd_2 (List.mem_map.mpr ⟨M, ids_S M h, by rw [if_pos hs]⟩)
theorem w_inst {M : Nat} (h : M ∈ idsT) (hs : stM M = false) : Cond.instanceMethod (yM M) ∈ Wds := wd_2 (List.mem_map.mpr ⟨M, ids_S M h, by rw [if_neg (by rw [hs]; decide)]⟩)
theorem w_sel {M : Nat} (h : M ∈ idsV) : Cond.selects (yM M).cls (yM M) (yM M) ∈ Wds := wd_3 (List.mem_map.mpr ⟨M, h, rfl⟩)
theorem w_ini {M : Nat} (h : M ∈ idsT) : Cond.initialized (yM M).cls ∈ Wds := by
  rw [(ini_all M h).1]
  exact wd_4 (List.mem_map.mpr ⟨gM M, (ini_all M h).2, rfl⟩)
theorem w_CL {q : Nat × Nat × Nat} (h : q ∈ CL) : Cond.classLink (ON q.1) q.2.1 (clN q.2.2) ∈ Wds := wd_8 (List.mem_map.mpr ⟨q, h, rfl⟩)
theorem w_insC {ci : Nat} (h : ci < 12) : Cond.instantiable (CN ci) (nf ci) ∈ Wds := wd_9 (List.mem_map.mpr ⟨ci, (cis_N ci h).1, rfl⟩)
theorem w_iniC {ci : Nat} (h : ci < 12) : Cond.initialized (CN ci) ∈ Wds := wd_10 (List.mem_map.mpr ⟨ci, (cis_N ci h).2, rfl⟩)
theorem w_KI {q : Nat × Nat × Int32} (h : q ∈ KI) : Cond.constant (ON q.1) q.2.1 q.2.2 ∈ Wds := wd_11 (List.mem_map.mpr ⟨q, h, rfl⟩)
theorem w_KJ {q : Nat × Nat × Int64} (h : q ∈ KJ) : Cond.constantLong (ON q.1) q.2.1 q.2.2 ∈ Wds := wd_12 (List.mem_map.mpr ⟨q, h, rfl⟩)
theorem w_SI {q : Nat × Nat} (h : q ∈ SI) : Cond.methodLink (ON q.1) q.2 Lib.objectInit ∈ Wds := wd_13 (List.mem_map.mpr ⟨q, h, rfl⟩)
theorem w_SL {q : Nat × Nat × Nat} (h : q ∈ SL) : Cond.fieldLink (ON q.1) q.2.1 (slN q.2.2).1 (slN q.2.2).2.1 (slN q.2.2).2.2 ∈ Wds := wd_14 (List.mem_map.mpr ⟨q, h, rfl⟩)
theorem w_sp (i : Nat) {w : Cond} (h : Wk15[i]? = some w) : w ∈ Wds := wd_15 (List.mem_of_getElem? h)
theorem fW_f {g idx ci k : Nat} (h : ci < 12) : fW (g, idx, ci, k, false) = .fieldLink (ON g) idx (CN ci) (TT ci k).2.1 (TT ci k).2.2.1 := by
  have h1 : ¬ ci = 12 := by omega
  simp only [fW, CNs, fnm, if_neg h1]
theorem fW_t {g idx ci k : Nat} (h : ci < 12) : fW (g, idx, ci, k, true) = .fieldLinkNest (ON g) idx (CN ci) (TT ci k).2.1 (TT ci k).2.2.1 "QuiverKin" := by
  have h1 : ¬ ci = 12 := by omega
  simp only [fW, CNs, fnm, if_neg h1]
theorem zz_rf (φ : Nat → Nat) (a : Nat) : va_rf (match a with | 0 => none | n + 1 => some (φ (n + 1))) = cr φ a := by cases a <;> rfl
section
variable {w : WX} {x : FX} {M pc : Nat} {Lc T : List Value} {h : Mem}
theorem wk {H : Heap} (hW : Wr w h H) {a k : Nat} (hk : (mS h a).1 = k) (h0 : k ≠ 0) (h8 : k ≠ 8) (h9 : k ≠ 9) (h10 : k ≠ 10) (h28 : k ≠ 28) : 8 ≤ a ∧ a < mN h ∧ CR w.1 w.2.2.1 w.2.2.2.1 h H a := by
  obtain ⟨g1, g2⟩ := WR.in_reg hW (a := a) (by rw [hk]; exact xS_k h0 h8 h9 h10 h28)
  exact ⟨g1, g2, hW.2.2.2.2 a g1 g2⟩
theorem cv_r {a : Nat} (h : 8 ≤ a) : cv w.1 (.ref a) = .ref (w.1 a) := cr_ref (by omega)
/-- an object's cell and its fields -/
theorem wko {H : Heap} (hW : Wr w h H) {a ci : Nat} (hci : ci < 12) (hk : (mS h a).1 = 16 + ci) : 8 ≤ a ∧ a < mN h ∧ t_OB (w.1 a) (w.2.2.1.1 ci) (nf ci) (w.2.2.1.2 ci) H (fv w.1 h a ci) := by
  obtain ⟨g1, g2, g3⟩ := wk hW hk (by omega) (by omega) (by omega) (by omega) (by omega)
  unfold CR at g3
  rw [if_neg (by rw [hk]; omega), hk, show 16 + ci - 16 = ci by omega] at g3
  exact ⟨g1, g2, g3.2⟩
theorem wka {H : Heap} (hW : Wr w h H) {a k : Nat} (hk : (mS h a).1 = k) (h0 : k = 1 ∨ k = 2 ∨ k = 3 ∨ k = 5 ∨ k = 6) : 8 ≤ a ∧ a < mN h ∧ H[w.1 a]? = some (arrV (w.2.2.2.1 k) (mS h a).2 (vfA w.1 h a k)) := by
  obtain ⟨g1, g2, g3⟩ := wk hW hk (by omega) (by omega) (by omega) (by omega) (by omega)
  unfold CR at g3
  rw [if_pos (by rw [hk]; omega), hk] at g3
  exact ⟨g1, g2, g3.2⟩
theorem inK {φ : Nat → Nat} {base : Nat} {D : va_G} {AC : Nat → ClassId} {L : Nat} {xs : Nat → Int32} {U : State} {H : Heap} (k : KF φ base D AC L xs U H) (j : Nat) (hj : j = 1 ∨ j = 2 ∨ j = 3 ∨ j = 5 ∨ j = 6) : ArrOfT U (AC j) (tyK j) ∧ va_RA U (AC j) (tyK j) := by
  rcases hj with rfl | rfl | rfl | rfl | rfl
  · exact k.1.2 0 _ rfl
  · exact k.1.2 1 _ rfl
  · exact k.1.2 2 _ rfl
  · exact k.1.2 3 _ rfl
  · exact k.1.2 4 _ rfl
theorem inv_of {i : Int32} {n : Nat} (h : 0 ≤ i.toInt ∧ i.toInt < n) : vp_in i n := vp_in_iff.mpr h
theorem ic {i : Int32} {n : Nat} (h : 0 ≤ i.toInt ∧ i.toInt < n) : i.toNatClampNeg < n := Nat.not_le.mp fun q => inv_of h (Or.inr q)
theorem g_getf (C : Ctx w x M) {ci k a idx : Nat} {b : Bool} {v : Value} (hci : ci < 12) (hk : k < nf ci) (hK : (mS h a).1 = 16 + ci) (hl : (gM M, idx, ci, k, b) ∈ FL) (hv : cv w.1 v = fv w.1 h a ci k) (hd : decode (bM M) pc = .ok (.getfield idx, 3)) (kk : GW w x M (pc + 3) Lc (v :: T) h) : GW w x M pc Lc (.ref a :: T) h := by
  intro H locs ls hW hS hL
  obtain ⟨g1, g2, cell, q1, q2, q3, q4⟩ := wko hW hci hK
  obtain ⟨c1, c2, c3, c4, c5, c6, c7, c8, c9, c10⟩ := C
  obtain ⟨hSl, hfc, kC, hkC, hkind⟩ := c6.1.1 ci _ (clv_at hci)
  obtain ⟨cf, kf, fi, f, hi, hsl⟩ := hSl k hk
  have hst := (u_facts hfc hkC (u_lays c5 (w_lays hci) hk) hi).1
  have hlink := c5 _ (w_FL hl)
  have hi' := hi
  rw [own_cls ci hci k hk] at hi'
  have k1 := kk H locs ls hW hS hL
  show Wg x H locs _ _ (F0 (xm x) pc ls (cv w.1 (.ref a) :: T.map (cv w.1)))
  rw [cv_r g1]
  have k2 : Wg x H locs (mN h - xn0 x) (mC h - xc0 x) (F0 (xm x) (pc + 3) ls (fv w.1 h a ci k :: T.map (cv w.1))) := by rw [← hv]; exact k1
  cases b with
  | false =>
    rw [fW_f hci] at hlink
    exact W.getf c1 c2 c4 hlink hi' hst q1 (by rw [q3]; exact fun e => by cases e) (by rw [hsl]; exact q4 k hk) rfl rfl hd k2
  | true =>
    rw [fW_t hci] at hlink
    exact va_Wgetf c1 c2 c4 hlink hi' hst q1 (by rw [q3]; exact fun e => by cases e) (by rw [hsl]; exact q4 k hk) rfl rfl hd k2
theorem g_putf (C : Ctx w x M) {ci k a idx : Nat} {b : Bool} {v : Value} {h' : Mem} (hci : ci < 12) (hk : k < nf ci) (hK : (mS h a).1 = 16 + ci) (hl : (gM M, idx, ci, k, b) ∈ FL) (hfin : (TT ci k).2.2.2 = false ∨ ((yM M).name = "<init>" ∧ CN ci = ON (gM M) ∧ b = false ∧ (TT ci k).2.2.2 = true)) (hn : narrow (tyF ci k) (cv w.1 v) = cv w.1 v) (hft : fits (tyF ci k) (cv w.1 v) = true) (sb : Sb h h' a) (hfv : ∀ j, j < nf ci → updV (fv w.1 h a ci) k (cv w.1 v) j = fv w.1 h' a ci j) (hd : decode (bM M) pc = .ok (.putfield idx, 3)) (kk : GW w x M (pc + 3) Lc T h') : GW w x M pc Lc (v :: .ref a :: T) h := by
  intro H locs ls hW hS hL
  obtain ⟨g1, g2, cell, q1, q2, q3, q4⟩ := wko hW hci hK
  obtain ⟨c1, c2, c3, c4, c5, c6, c7, c8, c9, c10⟩ := C
  have hap := va_apart (own := CN ci) c5 (w_lays hci) (tyF ci) (ty_at hci) (nm_at hci) c6.1 (clv_at hci)
  obtain ⟨hSl, hfc, kC, hkC, hkind⟩ := c6.1.1 ci _ (clv_at hci)
  obtain ⟨cf, kf, fi, f, hi, hsl⟩ := hSl k hk
  have hst := (u_facts hfc hkC (u_lays c5 (w_lays hci) hk) hi).1
  have hlink := c5 _ (w_FL hl)
  have hi' := hi
  rw [own_cls ci hci k hk] at hi'
  have hlay := c5 _ (w_lays hci _ (u_in_lay hk))
  unfold u_lay at hlay
  show Wg x H locs _ _ (F0 (xm x) pc ls (cv w.1 v :: cv w.1 (.ref a) :: T.map (cv w.1)))
  rw [cv_r g1]
  have fin : ∀ H' : Heap, H'[w.1 a]? = some (cell.setSlot f.slot (cv w.1 v)) → H'.size = H.size → (∀ q, q ≠ w.1 a → H'[q]? = H[q]?) → Wg x H' (locs ++ [⟨w.1 a, f.slot⟩]) (mN h - xn0 x) (mC h - xc0 x) (F0 (xm x) (pc + 3) ls (T.map (cv w.1))) := by
    intro H' e1 e2 e3
    rw [← sb.2.1, ← sb.2.2.1]
    refine kk H' _ ls (WR.upd c10 hW sb g1 e2 e3 ?_) (hS.put e2 e3 (show w.2.1 ≤ w.1 a by rw [c10 a g1]; omega)) hL
    unfold CR
    rw [sb.1, if_neg (by rw [hK]; omega), hK, show 16 + ci - 16 = ci by omega]
    rw [hsl] at e1
    exact ⟨hci, t_OB.to (V := updV (fv w.1 h a ci) k (cv w.1 v)) ⟨_, e1, q2, q3, t_set q4 hap hk _⟩ hfv⟩
  rcases hfin with hfin | ⟨hnm, hown, hb, hfin⟩
  · rw [if_neg (by rw [hfin]; decide)] at hlay
    have h6 := u_store hfc hkC hkind hlay hi (ty_at hci k hk) hn hft
    cases b with
    | false =>
      rw [fW_f hci] at hlink
      exact W.putK c1 c2 (f := f) ⟨c4, hlink, ⟨_, _, _, hi'⟩, hst⟩ (by rw [q2]; exact h6) q1 q3 (by rw [hsl]; exact k2_hasslot (q4 k hk)) rfl rfl hd fin
    | true =>
      rw [fW_t hci] at hlink
      exact va_WputK c1 c2 (f := f) c4 hlink hi' hst (by rw [q2]; exact h6) q1 q3 (by rw [hsl]; exact k2_hasslot (q4 k hk)) rfl rfl hd fin
  · subst hb
    rw [fW_f hci] at hlink
    rw [if_pos hfin] at hlay
    have hcf : (xm x).cls = cf := by
      obtain ⟨_, _, c', _, _, _, -, -, hf', -, -, -, hown2, -⟩ := Cond.laysFinal_spec hlay
      have e1 : c' = cf := by have := hi.symm.trans hf'; simp at this; exact this.1.symm
      rw [own_cls ci hci k hk, hown] at hown2
      rw [← e1]; exact Option.some.inj (c4.symm.trans hown2)
    have h6 := u_fits hfc hkC hkind (Or.inr hlay) hi (ty_at hci k hk) hn hft
    exact W.putFinK c1 c2 c4 hlink hi' hst hcf (c8 hnm) (by rw [q2]; exact h6) q1 q3 (by rw [hsl]; exact k2_hasslot (q4 k hk)) rfl rfl hd fin
theorem cells1 {a b n : Nat} (h : n ≤ a) (e : b = a + 1) : b - n = a - n + 1 := by omega
theorem g_new (C : Ctx w x M) {ci idx : Nat} (hci : ci < 12) (hl : (gM M, idx, 16 + ci) ∈ CL) (hn : xn0 x ≤ mN h ∧ xc0 x ≤ mC h) (hr : mN (mk h (16 + ci) (nf ci)) - xn0 x ≤ (xRm x).cells ∧ mC (mk h (16 + ci) (nf ci)) - xc0 x ≤ (xRm x).slots) (hd : decode (bM M) pc = .ok (.new idx, 3)) (kk : GW w x M (pc + 3) Lc (.ref (mN h) :: T) (mk h (16 + ci) (nf ci))) : GW w x M pc Lc T h := by
  intro H locs ls hW hS hL
  obtain ⟨c1, c2, c3, c4, c5, c6, c7, c8, c9, c10⟩ := C
  have hKn := c6.1.1 ci _ (clv_at hci)
  have hcl := c5 _ (w_CL hl)
  have ecl : clN (16 + ci) = CN ci := by
    rcases ci with _ | _ | _ | _ | _ | _ | _ | _ | _ | _ | _ | _ | ci <;> first | rfl | omega
  rw [show clN (gM M, idx, 16 + ci).2.2 = CN ci from ecl] at hcl
  have hsz := hW.1
  have h8 := hW.2.1
  have ea : H.size = w.1 (mN h) := by rw [hsz, c10 _ h8]
  have eN : mN (mk h (16 + ci) (nf ci)) = mN h + 1 := rfl
  have eC : mC (mk h (16 + ci) (nf ci)) = mC h + nf ci := rfl
  refine W.newcK c1 c2 c4 hcl (c5 _ (w_insC hci)) (c5 _ (w_iniC hci)) rfl hd (by rw [eN] at hr; omega) (by rw [eC] at hr; omega) hKn.2.1 rfl fun H1 kC hkC e1 z1 o1 => ?_
  have k1 := kk H1 locs ls (WR.new c10 hW rfl (fun b hb => ⟨va_up_o _ _ _ _ hb, va_up_o _ _ _ _ hb, va_up_o _ _ _ _ hb, va_up_o _ _ _ _ hb⟩) z1 o1 ?_) (hS.born z1 o1) hL
  · rw [eN, eC] at k1
    rw [show mN h + 1 - xn0 x = mN h - xn0 x + 1 by omega, show mC h + nf ci - xc0 x = mC h - xc0 x + nf ci by omega] at k1
    have k2 : Wg x H1 locs (mN h - xn0 x + 1) (mC h - xc0 x + nf ci) (F0 (xm x) (pc + 3) ls (cv w.1 (.ref (mN h)) :: T.map (cv w.1))) := k1
    rw [cv_r h8, ← ea] at k2
    exact k2
  · have eS : mS (mk h (16 + ci) (nf ci)) (mN h) = (16 + ci, nf ci) := va_up_s _ _ _
    unfold CR
    rw [eS, if_neg (by show ¬ 16 + ci < 16; omega), show (16 + ci, nf ci).1 - 16 = ci by show 16 + ci - 16 = ci; omega]
    refine ⟨hci, ?_⟩
    rw [← ea]
    refine (u_born (tyF ci) c5 (w_lays hci) hKn hkC e1 (ty_at hci)).to fun j hj => ?_
    unfold fv
    have f1 : mI (mk h (16 + ci) (nf ci)) (mN h) = fun _ => 0 := va_up_s _ _ _
    have f2 : mJ (mk h (16 + ci) (nf ci)) (mN h) = fun _ => 0 := va_up_s _ _ _
    have f3 : mR (mk h (16 + ci) (nf ci)) (mN h) = fun _ => 0 := va_up_s _ _ _
    rw [f1, f2, f3]
    have ht := dfl_ok ci hci j hj
    revert ht
    cases tyF ci j <;> intro ht <;> first | rfl | (cases ht)
end
