/-! printed by wip/gen/emit_ctor2.py: the maker of the model, on lists -/
section
variable {b h : Mem} {T : TS}
theorem k_copy2 {w v : Nat} {p o : Nat → Int32} (hw : (tG T w).1 = 1 ∧ 8 ≤ w ∧ w < tN T ∧ (tG T w).2.1 = 1450 ∧ (tG T w).2.2.2 = p) (hv : (tG T v).1 = 1 ∧ 8 ≤ v ∧ v < tN T ∧ (tG T v).2.1 = 1450) (wv : w ≠ v) : ∀ (k i : Nat) (h : Mem), i + k = 1450 → Rep b h (tSF T v (fun j => if j < i then p j else o j)) → OkO b (rX m_M_copy m_M_copy 2 [.ref w, .ref v, .int (nI i)] [] h) (some (tSF T v (fun j => if j < 1450 then p j else o j))) := by
  obtain ⟨w1, w2, w3, w4, w5⟩ := hw
  obtain ⟨v1, v2, v3, v4⟩ := hv
  intro k
  induction k with
  | zero =>
    intro i h hk r
    rw [q_M_copy_2, if_neg (by rw [show i = 1450 by omega]; decide)]
    rw [show i = 1450 by omega] at r
    exact k_end r
  | succ k ih =>
    intro i h hk r
    obtain ⟨a1, a2, a3⟩ := r.2.2.2 w w2 (by rw [tN_SF]; exact w3)
    obtain ⟨b1, b2, b3⟩ := r.2.2.2 v v2 (by rw [tN_SF]; exact v3)
    rw [tG_SF T v _ v2 v3 w w2, if_neg wv] at a1 a3
    rw [tG_SF T v _ v2 v3 v v2, if_pos rfl] at b1 b3
    have a1 : mS h w = (1, 1450) := a1.trans (Prod.ext w1 w4)
    have a3 : mI h w = p := a3.trans w5
    have b1 : mS h v = (1, 1450) := b1.trans (Prod.ext v1 v4)
    have b3 : mI h v = fun j => if j < i then p j else o j := b3
    have el : ∀ f, ldI h w (nI i) f = f (p i) := fun f => (if_pos ⟨by rw [a1]; rfl, by rw [nI_toInt (by omega), a1]; omega⟩).trans (by rw [nI_clamp (by omega), a3])
    have es : ∀ (q : Int32) (f : Mem → Rs), stI h v (nI i) q f = f (wI h v (upd (mI h v) i q)) := fun q f => (if_pos ⟨by rw [b1], by rw [nI_toInt (by omega), b1]; omega⟩).trans (by rw [nI_clamp (by omega)])
    rw [q_M_copy_2, if_pos (show nI i < (1450 : Int32) from nI_lt (b := 1450) (by omega) (by decide)), el, es, nI_1]
    refine ih (i + 1) _ (by omega) ?_
    have q := rep_U (h' := wI h v (upd (mI h v) i (p i))) (e := ((tG (tSF T v fun j => if j < i then p j else o j) v).1, (tG (tSF T v fun j => if j < i then p j else o j) v).2.1, (tG (tSF T v fun j => if j < i then p j else o j) v).2.2.1, upd (mI h v) i (p i))) r v2 (by rw [tN_SF]; exact v3) rfl rfl (fun c hc => ⟨rfl, rfl, va_up_o _ _ _ _ hc⟩) ⟨by rw [tG_SF T v _ v2 v3 v v2, if_pos rfl]; exact b1.trans (Prod.ext v1.symm v4.symm), b2, va_up_s _ _ _⟩
    rw [tSF_U T v _ _ v2 v3] at q
    rw [show (fun j => if j < i + 1 then p j else o j) = upd (mI h v) i (p i) from ?_]
    · exact q
    · funext j
      rw [b3]
      unfold upd
      by_cases e : j = i
      · rw [if_pos e, if_pos (by omega), e]
      · rw [if_neg e]
        show (if j < i + 1 then p j else o j) = (if j < i then p j else o j)
        by_cases e2 : j < i
        · rw [if_pos e2, if_pos (by omega)]
        · rw [if_neg e2, if_neg (by omega)]
def tCopy (w v : Nat) (T : TS) : Option TS := if ((tG T w).1 = 1 ∧ 8 ≤ w ∧ w < tN T ∧ (tG T w).2.1 = 1450) ∧ ((tG T v).1 = 1 ∧ 8 ≤ v ∧ v < tN T ∧ (tG T v).2.1 = 1450) ∧ w ≠ v then some (tSF T v (fun j => if j < 1450 then (tG T w).2.2.2 j else (tG T v).2.2.2 j)) else none
theorem k_copy (r : Rep b h T) {w v : Nat} : OkO b (cA m_M_copy [.ref w, .ref v] h) (tCopy w v T) := by
  rw [q_M_copy]
  unfold tCopy
  by_cases q : ((tG T w).1 = 1 ∧ 8 ≤ w ∧ w < tN T ∧ (tG T w).2.1 = 1450) ∧ ((tG T v).1 = 1 ∧ 8 ≤ v ∧ v < tN T ∧ (tG T v).2.1 = 1450) ∧ w ≠ v
  · rw [if_pos q]
    refine k_copy2 ⟨q.1.1, q.1.2.1, q.1.2.2.1, q.1.2.2.2, rfl⟩ q.2.1 q.2.2 1450 0 h rfl ?_
    rw [tSF_0 T _ q.2.1.2.1 q.2.1.2.2.1 _ (by funext j; exact if_neg (Nat.not_lt_zero j))]
    exact r
  · rw [if_neg q]; intro T' e; cases e
def tM (x : Nat) (T : TS) : Option TS :=
  (tPR (tA T 1 1450) 11 0 x (tN T)).bind fun T => (tPR (tA T 1 1450) 11 1 x (tN T)).bind fun T => (tPR (tA T 1 2724) 11 2 x (tN T)).bind fun T => (tPR (tA T 1 300) 11 3 x (tN T)).bind fun T => (tPI T 11 5 x (-1)).bind fun T => (tPI T 11 6 x (-1)).bind fun T => (tPR (tA T 1 160) 11 15 x (tN T)).bind fun T => (tPR (tA T 1 7) 11 20 x (tN T)).bind fun T => (tPR (tA T 3 330) 11 21 x (tN T)).bind fun T => (tPR (tA T 2 330) 11 22 x (tN T)).bind fun T => (tPI T 11 23 x 1).bind fun T => (tPR (tA T 1 23) 11 25 x (tN T)).bind fun T => (tPR (tA T 1 6) 11 26 x (tN T)).bind fun T => (tPR (tA T 1 6) 11 27 x (tN T)).bind fun T => (tPR (tA T 2 144) 11 31 x (tN T)).bind fun T => (tPR (tA T 1 125) 11 36 x (tN T)).bind fun T => (tPR (tA T 1 31) 11 37 x (tN T)).bind fun T => (tPR (tA T 2 7776) 11 38 x (tN T)).bind fun T => (tGR T 11 0 x).bind fun w => (tSI T w 8 421).bind fun T => (tGR T 11 0 x).bind fun w => (tSI T w 2 (-1)).bind fun T => (tGR T 11 0 x).bind fun w => (tGR T 11 1 x).bind fun v => (tCopy w v T).bind fun T => some T
set_option maxHeartbeats 1000000 in
theorem k_M (r : Rep b h T) {x : Nat} (hx : 0 < x) (hS : (mS h x).1 = 27) : OkO b (cA m_M_new [.ref x] h) (tM x T) := by
  rw [q_M_new]
  refine k_grd hS hx ?_
  refine k_nwA (g := fun a T => (tPR T 11 0 x a).bind _) r rfl (by decide) fun h r => ?_
  refine k_pfR r fun h T r _ => ?_
  refine k_nwA (g := fun a T => (tPR T 11 1 x a).bind _) r rfl (by decide) fun h r => ?_
  refine k_pfR r fun h T r _ => ?_
  refine k_nwA (g := fun a T => (tPR T 11 2 x a).bind _) r rfl (by decide) fun h r => ?_
  refine k_pfR r fun h T r _ => ?_
  refine k_nwA (g := fun a T => (tPR T 11 3 x a).bind _) r rfl (by decide) fun h r => ?_
  refine k_pfR r fun h T r _ => ?_
  refine k_pfI r fun h T r _ => ?_
  refine k_pfI r fun h T r _ => ?_
  refine k_nwA (g := fun a T => (tPR T 11 15 x a).bind _) r rfl (by decide) fun h r => ?_
  refine k_pfR r fun h T r _ => ?_
  refine k_nwA (g := fun a T => (tPR T 11 20 x a).bind _) r rfl (by decide) fun h r => ?_
  refine k_pfR r fun h T r _ => ?_
  refine k_nwA (g := fun a T => (tPR T 11 21 x a).bind _) r rfl (by decide) fun h r => ?_
  refine k_pfR r fun h T r _ => ?_
  refine k_nwA (g := fun a T => (tPR T 11 22 x a).bind _) r rfl (by decide) fun h r => ?_
  refine k_pfR r fun h T r _ => ?_
  refine k_pfZ (Or.inr rfl) r fun h T r _ => ?_
  refine k_nwA (g := fun a T => (tPR T 11 25 x a).bind _) r rfl (by decide) fun h r => ?_
  refine k_pfR r fun h T r _ => ?_
  refine k_nwA (g := fun a T => (tPR T 11 26 x a).bind _) r rfl (by decide) fun h r => ?_
  refine k_pfR r fun h T r _ => ?_
  refine k_nwA (g := fun a T => (tPR T 11 27 x a).bind _) r rfl (by decide) fun h r => ?_
  refine k_pfR r fun h T r _ => ?_
  refine k_nwA (g := fun a T => (tPR T 11 31 x a).bind _) r rfl (by decide) fun h r => ?_
  refine k_pfR r fun h T r _ => ?_
  refine k_nwA (g := fun a T => (tPR T 11 36 x a).bind _) r rfl (by decide) fun h r => ?_
  refine k_pfR r fun h T r _ => ?_
  refine k_nwA (g := fun a T => (tPR T 11 37 x a).bind _) r rfl (by decide) fun h r => ?_
  refine k_pfR r fun h T r _ => ?_
  refine k_nwA (g := fun a T => (tPR T 11 38 x a).bind _) r rfl (by decide) fun h r => ?_
  refine k_pfR r fun h T r _ => ?_
  refine k_gfR r fun w => k_stI (i := 8) r fun h T r _ => k_gfR r fun w => k_stI (i := 2) r fun h T r _ => k_gfR r fun w => k_gfR r fun v => ?_
  exact k_bnV (k_copy r) fun h T r _ => k_end r
end
