/-! THE LAW HOLDS FOR EVERY RUN -/
theorem start_S {L : Nat} {xs : Nat → Int32} {W : TS} {h' : Mem} (c : chk3 (some W) = true) (r : Rep (h0 L xs) h' W) : ∃ V J z, h' = em V J z ∧ Stt xs V z ∧ Rg L xs (em V J z) ∧ z.2.2.1 = 451 ∧ z.2.2.2 = 21190 := by
  have c' : (chk2 (some W) && chkM (some W)) = true := c
  rw [Bool.and_eq_true] at c'
  have c2 : (chkS (some W) && chkI (some W)) = true := c'.1
  rw [Bool.and_eq_true] at c2
  obtain ⟨F, mc, mn⟩ := start_fix c2.1 r
  have nT : tN W = 451 := r.1.symm.trans mn
  have len : W.1.length = 443 := by
    have : 8 + W.1.length = 451 := nT
    omega
  have rf := start_ref c2.1
  have it := start_int c2.2 len
  have cm : ((List.range 125).all fun k => decide ((tG W 432).2.2.2 k = mkd k)) = true := c'.2
  obtain ⟨V, hV⟩ : ∃ V : Vm, V = fun a k => (mI h' a k.toNat).toInt := ⟨_, rfl⟩
  obtain ⟨J, hJ⟩ : ∃ J : Vm, J = fun a k => (mJ h' a k.toNat).toInt := ⟨_, rfl⟩
  have eh : h' = em V J h'.2.2 := by
    rw [hV, hJ]
    refine Prod.ext ?_ (Prod.ext ?_ rfl)
    · funext a k
      exact (Int32.ofInt_toInt _).symm
    · funext a k
      exact (Int64.ofInt_toInt _).symm
  have lo : ∀ a, a < 8 → mS h' a = xS L a ∧ mI h' a = xI xs a := fun a ha => ⟨(r.2.2.1 a ha).1, (r.2.2.1 a ha).2.2⟩
  have v : ∀ (a n : Nat), 8 ≤ a → a < 451 → n < i0N a → V a (n : Int) = (i0V a n).toInt := fun a n h8 ha hn => by
    rw [hV]
    show (mI h' a ((n : Int).toNat)).toInt = _
    rw [show ((n : Int).toNat) = n by omega, (r.2.2.2 a h8 (by omega)).2.2, it a h8 ha n hn]
  have vz : ∀ (a : Nat) (k : Int) (x : Int), 8 ≤ a → a < 451 → 0 ≤ k → k.toNat < i0N a → (i0V a k.toNat).toInt = x → V a k = x := fun a k x h8 ha k0 hk e => by
    have q := v a k.toNat h8 ha hk
    rw [show ((k.toNat : Nat) : Int) = k by omega, e] at q
    exact q
  obtain ⟨m1, m2, m3, m4, m5, m6, m7, m8, m9, m10, m11, m12, m13, m14, m15⟩ := zM
  have n36 : i0N 436 = 1450 ∧ i0N 437 = 1450 := by decide
  have f40 : ∀ a, a ≠ 432 → a ≠ 436 → a ≠ 437 → i0N a = 40 := fun a h1 h2 h3 => by
    unfold i0N
    rw [if_neg (by simp [h1]), if_neg (by simp [h2, h3])]
  have w : ∀ (a : Nat) (k x : Int), 8 ≤ a → a < 432 ∨ a = 435 → 0 ≤ k → k < 40 → (i0V a k.toNat).toInt = x → V a k = x := fun a k x h8 ha k0 hk e => vz a k x h8 (by omega) k0 (by rw [f40 a (by omega) (by omega) (by omega)]; omega) e
  have t10 : ∀ n, n < 12 → n ≠ 8 → (i0V 10 n).toInt = 0 ∧ (i0V 211 n).toInt = 0 := by decide
  have t9 : ∀ n, n < 12 → (i0V 9 n).toInt = 0 ∧ (i0V 210 n).toInt = 0 := by decide
  have tp : ∀ b, b < 21 → 12 ≤ b → (i0V (9 + b) 2).toInt = 0 ∧ (i0V (210 + b) 2).toInt = 0 := by decide
  have g1 : HR TXR V h'.2.2 9 (V 436) := by
    refine HR_0 (fun k k0 k1 k8 k2 => vz 436 k 0 (by omega) (by omega) k0 (by rw [n36.1]; omega) (zA k.toNat (by omega) (by omega) (by omega)).1) (vz 436 8 _ (by omega) (by omega) (by omega) (by rw [n36.1]; decide) m1) (vz 436 2 _ (by omega) (by omega) (by omega) (by rw [n36.1]; decide) m3) (fun k k0 k1 k8 => w 10 k 0 (by omega) (by omega) k0 (by omega) (t10 k.toNat (by omega) (by omega)).1) (w 10 8 _ (by omega) (by omega) (by omega) (by omega) m7) (fun k k0 k1 => w 9 k 0 (by omega) (by omega) k0 (by omega) (t9 k.toNat (by omega)).1) (w 9 12 _ (by omega) (by omega) (by omega) (by omega) m5) (fun b hb k k0 k1 => ?_) (fun b hb => w (9 + b) 2 0 (by omega) (by omega) (by omega) (by omega) (tp b (by omega) (by omega)).1)
    have q := zR k.toNat (by omega)
    rcases hb with rfl | rfl | rfl
    · exact w 18 k 0 (by omega) (by omega) k0 k1 q.1
    · exact w 19 k 0 (by omega) (by omega) k0 k1 q.2.1
    · exact w 20 k 0 (by omega) (by omega) k0 k1 q.2.2.1
  have g2 : HR TXR V h'.2.2 210 (V 437) := by
    refine HR_0 (fun k k0 k1 k8 k2 => vz 437 k 0 (by omega) (by omega) k0 (by rw [n36.2]; omega) (zA k.toNat (by omega) (by omega) (by omega)).2) (vz 437 8 _ (by omega) (by omega) (by omega) (by rw [n36.2]; decide) m2) (vz 437 2 _ (by omega) (by omega) (by omega) (by rw [n36.2]; decide) m4) (fun k k0 k1 k8 => w 211 k 0 (by omega) (by omega) k0 (by omega) (t10 k.toNat (by omega) (by omega)).2) (w 211 8 _ (by omega) (by omega) (by omega) (by omega) m8) (fun k k0 k1 => w 210 k 0 (by omega) (by omega) k0 (by omega) (t9 k.toNat (by omega)).2) (w 210 12 _ (by omega) (by omega) (by omega) (by omega) m6) (fun b hb k k0 k1 => ?_) (fun b hb => w (210 + b) 2 0 (by omega) (by omega) (by omega) (by omega) (tp b (by omega) (by omega)).2)
    have q := zR k.toNat (by omega)
    rcases hb with rfl | rfl | rfl
    · exact w 219 k 0 (by omega) (by omega) k0 k1 q.2.2.2.1
    · exact w 220 k 0 (by omega) (by omega) k0 k1 q.2.2.2.2.1
    · exact w 221 k 0 (by omega) (by omega) k0 k1 q.2.2.2.2.2
  have c1 := (g1.2.2.2.2.2.2.2.2).1
  have x436 : V 436 1 = 0 := vz 436 1 0 (by omega) (by omega) (by omega) (by rw [n36.1]; decide) (zA 1 (by omega) (by omega) (by omega)).1
  have x437 : V 437 1 = 0 := vz 437 1 0 (by omega) (by omega) (by omega) (by rw [n36.2]; decide) (zA 1 (by omega) (by omega) (by omega)).2
  have y1 : V 419 1 = 0 := w 419 1 _ (by omega) (by omega) (by omega) (by omega) m15
  have y2 : V 435 4 = 0 := w 435 4 _ (by omega) (by omega) (by omega) (by omega) m14
  have y3 : V 424 9 = -1 := w 424 9 _ (by omega) (by omega) (by omega) (by omega) m9
  have y4 : V 424 10 = -1 := w 424 10 _ (by omega) (by omega) (by omega) (by omega) m10
  have y5 : V 435 5 = -1 := w 435 5 _ (by omega) (by omega) (by omega) (by omega) m11
  have y6 : V 435 6 = -1 := w 435 6 _ (by omega) (by omega) (by omega) (by omega) m12
  have y7 : V 435 23 = 1 := w 435 23 _ (by omega) (by omega) (by omega) (by omega) m13
  refine ⟨V, J, h'.2.2, eh, ⟨F, ?_, ⟨g1, g2, by omega, ⟨by omega, by omega, fun i i0 i1 => absurd i1 (by omega)⟩, ⟨by omega, by omega, by omega, by omega⟩, ?_, y7, ?_⟩⟩, ?_, mn, mc⟩
  · have z0 : ∀ k, k < 4 → R0 17 k = 0 ∧ R0 218 k = 0 := by decide
    intro H k hH hk
    rcases hH with rfl | rfl
    · refine Or.inl ?_
      show mR h' 17 k = 0
      rw [(r.2.2.2 17 (by omega) (by omega)).2.1, rf 17 (by omega) (by omega) k (by omega)]
      exact (z0 k hk).1
    · refine Or.inl ?_
      show mR h' 218 k = 0
      rw [(r.2.2.2 218 (by omega) (by omega)).2.1, rf 218 (by omega) (by omega) k (by omega)]
      exact (z0 k hk).2
  · intro k hk
    have q : (tG W 432).2.2.2 k = mkd k := of_decide_eq_true (List.all_eq_true.mp cm k (List.mem_range.mpr hk))
    have K := K_at hk
    rw [hV]
    show (mI h' 432 ((k : Int).toNat)).toInt = _
    rw [show ((k : Int).toNat) = k by omega, (r.2.2.2 432 (by omega) (by omega)).2.2, q, K.1, ← iv_nat]
    exact iv_toInt (by omega)
  · intro a ha k
    rw [hV]
    show (mI h' a ((k : Int).toNat)).toInt = _
    rw [show ((k : Int).toNat) = k by omega, (lo a ha).2]
  · rw [← eh]
    refine ⟨⟨by rw [mn]; decide, fun a ha => ?_⟩, (lo 6 (by decide)).1, fun k => by rw [(lo 6 (by decide)).2]; rfl⟩
    rw [(lo a ha).1]
    have a8 : a = 0 ∨ a = 1 ∨ a = 2 ∨ a = 3 ∨ a = 4 ∨ a = 5 ∨ a = 6 ∨ a = 7 := by omega
    rcases a8 with rfl | rfl | rfl | rfl | rfl | rfl | rfl | rfl <;> exact ⟨Nat.ne_of_beq_eq_false rfl, Nat.ne_of_beq_eq_false rfl⟩
theorem theoremB (L : Nat) (xs : Nat → Int32) (hL : L ≤ 3072) : LawOk L xs := by
  obtain ⟨W, h', c, r, e⟩ := law_start3 L xs
  obtain ⟨V, J, z, eh, S, R, n1, n2⟩ := start_S c r
  subst eh
  obtain ⟨h2, f1, f2, f3⟩ := n_all hL 512 V J z 0 S R (by omega) (by omega) (by omega)
  refine ⟨h2, e.trans f1, by omega, by omega⟩
