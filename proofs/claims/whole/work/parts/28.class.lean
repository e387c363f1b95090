/-! printed by wip/gen/emit_ctor2.py: the makers of the rows, the class and the model, on lists -/
def mk1 (x0 x1 x2 : Int32) : Int32 := (x0 ||| (1 <<< (((5 * x2) + x1) &&& 31))) ||| (((2 * ((x0 >>> ((15 + (3 * x1)) &&& 31)) &&& 7)) + 1) <<< ((15 + (3 * x1)) &&& 31))
/-- the mark of a row of guesses -/
def mkd (r : Nat) : Int32 := mk1 (mk1 (mk1 0 (nI r / 25) 0) ((nI r / 5) % 5) 1) (nI r % 5) 2
theorem tG_SF (T : TS) (w : Nat) (f : Nat → Int32) (h8 : 8 ≤ w) (hw : w < tN T) (c : Nat) (hc : 8 ≤ c) : tG (tSF T w f) c = if c = w then ((tG T w).1, (tG T w).2.1, (tG T w).2.2.1, f) else tG T c := tG_U T w _ h8 hw c hc
theorem tSF_U (T : TS) (w : Nat) (f g : Nat → Int32) (h8 : 8 ≤ w) (hw : w < tN T) : tU (tSF T w f) w ((tG (tSF T w f) w).1, (tG (tSF T w f) w).2.1, (tG (tSF T w f) w).2.2.1, g) = tSF T w g := by
  rw [tG_SF T w f h8 hw w h8, if_pos rfl]
  show ((T.1.set (w - 8) _).set (w - 8) _, T.2) = (T.1.set (w - 8) _, T.2)
  rw [List.set_set]
theorem tN_SF (T : TS) (w : Nat) (f : Nat → Int32) : tN (tSF T w f) = tN T := tN_U T w _
theorem tSF_0 (T : TS) (w : Nat) (h8 : 8 ≤ w) (hw : w < tN T) (f : Nat → Int32) (hf : f = (tG T w).2.2.2) : tSF T w f = T := by
  subst hf
  show (T.1.set (w - 8) (tG T w), T.2) = T
  unfold tN at hw
  have e : tG T w = T.1[w - 8]'(by omega) := by
    show T.1.getD (w - 8) _ = _
    rw [List.getD_eq_getElem?_getD, List.getElem?_eq_getElem (by omega)]
    rfl
  rw [e, List.set_getElem_self]
section
variable {b h : Mem} {T : TS}
theorem k_marks {x w : Nat} {o : Nat → Int32} (hx : 8 ≤ x ∧ x < tN T ∧ (tG T x).1 = 22 ∧ (tG T x).2.2.1 0 = w) (hw : (tG T w).1 = 1 ∧ 8 ≤ w ∧ w < tN T ∧ (tG T w).2.1 = 125) : ∀ (k i : Nat) (h : Mem), i + k = 125 → Rep b h (tSF T w (fun j => if j < i then mkd j else o j)) → OkO b (rX m_Rows_new m_Rows_new 30 [.ref x, .int (nI i)] [] h) (some (tSF T w (fun j => if j < 125 then mkd j else o j))) := by
  obtain ⟨x1, x2, x3, x4⟩ := hx
  obtain ⟨w1, w2, w3, w4⟩ := hw
  have xw : x ≠ w := fun q => by rw [q, w1] at x3; cases x3
  intro k
  induction k with
  | zero =>
    intro i h hk r
    obtain ⟨a1, a2, a3⟩ := r.2.2.2 x x1 (by rw [tN_SF]; exact x2)
    obtain ⟨b1, b2, b3⟩ := r.2.2.2 w w2 (by rw [tN_SF]; exact w3)
    rw [tG_SF T w _ w2 w3 x x1, if_neg xw] at a1 a2
    rw [tG_SF T w _ w2 w3 w w2, if_pos rfl] at b1
    have b1 : mS h w = (1, 125) := b1.trans (Prod.ext w1 w4)
    have ea : ∀ f, alN h w f = f (nI 125) := fun f => (if_pos (by rw [b1]; rfl)).trans (by rw [b1]; rfl)
    rw [q_Rows_new_30, show ∀ f, gfR h 6 0 x f = f (mR h x 0) from fun f => if_pos (by rw [a1]; exact x3), a2, x4, ea, if_neg (by rw [show i = 125 by omega]; decide)]
    rw [show i = 125 by omega] at r
    exact k_end r
  | succ k ih =>
    intro i h hk r
    obtain ⟨a1, a2, a3⟩ := r.2.2.2 x x1 (by rw [tN_SF]; exact x2)
    obtain ⟨b1, b2, b3⟩ := r.2.2.2 w w2 (by rw [tN_SF]; exact w3)
    rw [tG_SF T w _ w2 w3 x x1, if_neg xw] at a1 a2
    rw [tG_SF T w _ w2 w3 w w2, if_pos rfl] at b1 b3
    have b1 : mS h w = (1, 125) := b1.trans (Prod.ext w1 w4)
    have ea : ∀ f, alN h w f = f (nI 125) := fun f => (if_pos (by rw [b1]; rfl)).trans (by rw [b1]; rfl)
    have b3 : mI h w = fun j => if j < i then mkd j else o j := b3
    have eg : ∀ f, gfR h 6 0 x f = f w := fun f => (if_pos (by rw [a1]; exact x3)).trans (by rw [a2, x4])
    rw [q_Rows_new_30, eg, ea, if_pos (nI_lt (by omega) (by decide : 125 < 2 ^ 31)), eg, if_neg (by decide), q_Rows_marked, bnI_s, if_neg (by decide), if_neg (by decide), q_Rows_marked, bnI_s, if_neg (by decide), q_Rows_marked, bnI_s]
    have es : ∀ (v : Int32) (f : Mem → Rs), stI h w (nI i) v f = f (wI h w (upd (mI h w) i v)) := fun v f => (if_pos ⟨by rw [b1], by rw [nI_toInt (by omega), b1]; omega⟩).trans (by rw [nI_clamp (by omega)])
    rw [es, nI_1]
    refine ih (i + 1) _ (by omega) ?_
    have q := rep_U (h' := wI h w (upd (mI h w) i (mkd i))) (e := ((tG (tSF T w fun j => if j < i then mkd j else o j) w).1, (tG (tSF T w fun j => if j < i then mkd j else o j) w).2.1, (tG (tSF T w fun j => if j < i then mkd j else o j) w).2.2.1, upd (mI h w) i (mkd i))) r w2 (by rw [tN_SF]; exact w3) rfl rfl (fun c hc => ⟨rfl, rfl, va_up_o _ _ _ _ hc⟩) ⟨by rw [tG_SF T w _ w2 w3 w w2, if_pos rfl]; exact b1.trans (Prod.ext w1.symm w4.symm), b2, va_up_s _ _ _⟩
    rw [tSF_U T w _ _ w2 w3] at q
    rw [show (fun j => if j < i + 1 then mkd j else o j) = upd (mI h w) i (mkd i) from ?_]
    · exact q
    · funext j
      rw [b3]
      unfold upd
      by_cases e : j = i
      · rw [if_pos e, if_pos (by omega), e]
      · rw [if_neg e]
        show (if j < i + 1 then mkd j else o j) = (if j < i then mkd j else o j)
        by_cases e2 : j < i
        · rw [if_pos e2, if_pos (by omega)]
        · rw [if_neg e2, if_neg (by omega)]
def tMarks (x : Nat) (T : TS) : Option TS := if (8 ≤ x ∧ x < tN T ∧ (tG T x).1 = 22) ∧ ((tG T ((tG T x).2.2.1 0)).1 = 1 ∧ 8 ≤ (tG T x).2.2.1 0 ∧ (tG T x).2.2.1 0 < tN T ∧ (tG T ((tG T x).2.2.1 0)).2.1 = 125) then some (tSF T ((tG T x).2.2.1 0) (fun j => if j < 125 then mkd j else (tG T ((tG T x).2.2.1 0)).2.2.2 j)) else none
theorem k_marks0 (r : Rep b h T) {x : Nat} : OkO b (rX m_Rows_new m_Rows_new 30 [.ref x, .int 0] [] h) (tMarks x T) := by
  unfold tMarks
  by_cases q : (8 ≤ x ∧ x < tN T ∧ (tG T x).1 = 22) ∧ ((tG T ((tG T x).2.2.1 0)).1 = 1 ∧ 8 ≤ (tG T x).2.2.1 0 ∧ (tG T x).2.2.1 0 < tN T ∧ (tG T ((tG T x).2.2.1 0)).2.1 = 125)
  · rw [if_pos q]
    refine k_marks ⟨q.1.1, q.1.2.1, q.1.2.2, rfl⟩ q.2 125 0 h rfl ?_
    rw [tSF_0 T _ q.2.2.1 q.2.2.2.1 _ (by funext j; exact if_neg (Nat.not_lt_zero j))]
    exact r
  · rw [if_neg q]; intro T' e; cases e
def tRows (x : Nat) (T : TS) : Option TS :=
  (tPR (tA T 1 125) 6 0 x (tN T)).bind fun T => (tPR (tA T 1 125) 6 1 x (tN T)).bind fun T => (tPR (tA T 1 31) 6 2 x (tN T)).bind fun T => tMarks x T
set_option maxHeartbeats 1000000 in
theorem k_Rows (r : Rep b h T) {x : Nat} (hx : 0 < x) (hS : (mS h x).1 = 22) : OkO b (cA m_Rows_new [.ref x] h) (tRows x T) := by
  rw [q_Rows_new]
  refine k_grd hS hx ?_
  refine k_nwA (g := fun a T => (tPR T 6 0 x a).bind _) r rfl (by decide) fun h r => ?_
  refine k_pfR r fun h T r _ => ?_
  refine k_nwA (g := fun a T => (tPR T 6 1 x a).bind _) r rfl (by decide) fun h r => ?_
  refine k_pfR r fun h T r _ => ?_
  refine k_nwA (g := fun a T => (tPR T 6 2 x a).bind _) r rfl (by decide) fun h r => ?_
  refine k_pfR r fun h T r _ => ?_
  exact k_marks0 r
def tX (x : Nat) (T : TS) : Option TS :=
  (tHouse (tN T) (tA T 18 13)).bind fun T1 => (tPR T1 10 0 x (tN T)).bind fun T => (tHouse (tN T) (tA T 18 13)).bind fun T1 => (tPR T1 10 1 x (tN T)).bind fun T => (tTable (tN T) (tA T 23 10)).bind fun T1 => (tPR T1 10 2 x (tN T)).bind fun T => (tAsker (tN T) (tA T 16 1)).bind fun T1 => (tPR T1 10 3 x (tN T)).bind fun T => (tTape (tN T) (tA T 24 6)).bind fun T1 => (tPR T1 10 4 x (tN T)).bind fun T => (tGR (tA T 20 11) 10 4 x).bind fun w => (tReader (tN T) w (tA T 20 11)).bind fun T1 => (tPR T1 10 5 x (tN T)).bind fun T => (tRounds (tN T) (tA T 21 8)).bind fun T1 => (tPR T1 10 6 x (tN T)).bind fun T => (some (tA T 17 4) : Option TS).bind fun T1 => (tPR T1 10 7 x (tN T)).bind fun T => (tRows (tN T) (tA T 22 4)).bind fun T1 => (tPR T1 10 8 x (tN T)).bind fun T => some T
set_option maxHeartbeats 1000000 in
theorem k_X (r : Rep b h T) {x : Nat} (hx : 0 < x) (hS : (mS h x).1 = 26) : OkO b (cA m_X_new [.ref x] h) (tX x T) := by
  rw [q_X_new]
  refine k_grd hS hx ?_
  rw [r.N]
  refine k_bnV (k_House (rep_mk r _ _) tN_pos (k_obj r).1) fun h1 T1 r1 _ => ?_
  refine k_pfR r1 fun h T r _ => ?_
  rw [r.N]
  refine k_bnV (k_House (rep_mk r _ _) tN_pos (k_obj r).1) fun h1 T1 r1 _ => ?_
  refine k_pfR r1 fun h T r _ => ?_
  rw [r.N]
  refine k_bnV (k_Table (rep_mk r _ _) tN_pos (k_obj r).1) fun h1 T1 r1 _ => ?_
  refine k_pfR r1 fun h T r _ => ?_
  rw [r.N]
  refine k_bnV (k_Asker (rep_mk r _ _) tN_pos (k_obj r).1) fun h1 T1 r1 _ => ?_
  refine k_pfR r1 fun h T r _ => ?_
  rw [r.N]
  refine k_bnV (k_Tape (rep_mk r _ _) tN_pos (k_obj r).1) fun h1 T1 r1 _ => ?_
  refine k_pfR r1 fun h T r _ => ?_
  rw [r.N]
  refine k_gfR (rep_mk r _ _) fun w => ?_
  refine k_bnV (k_Reader (rep_mk r _ _) tN_pos (k_obj r).1) fun h1 T1 r1 _ => ?_
  refine k_pfR r1 fun h T r _ => ?_
  rw [r.N]
  refine k_bnV (k_Rounds (rep_mk r _ _) tN_pos (k_obj r).1) fun h1 T1 r1 _ => ?_
  refine k_pfR r1 fun h T r _ => ?_
  rw [r.N]
  refine k_bnV (k_Flier (rep_mk r _ _) tN_pos (k_obj r).1) fun h1 T1 r1 _ => ?_
  refine k_pfR r1 fun h T r _ => ?_
  rw [r.N]
  refine k_bnV (k_Rows (rep_mk r _ _) tN_pos (k_obj r).1) fun h1 T1 r1 _ => ?_
  refine k_pfR r1 fun h T r _ => ?_
  exact k_end r
end
