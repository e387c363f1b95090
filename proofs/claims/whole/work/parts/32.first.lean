/-! shapes and final references behind the makers -/
theorem getD_drop8 {α : Type} (l : List α) (d : α) {a : Nat} (h8 : 8 ≤ a) : (l.drop 8).getD (a - 8) d = l.getD a d := by
  rw [List.getD_eq_getElem?_getD, List.getD_eq_getElem?_getD, List.getElem?_drop, show 8 + (a - 8) = a by omega]
theorem getD_map' {α β : Type} (f : α → β) (l : List α) (n : Nat) (d : α) : (l.map f).getD n (f d) = f (l.getD n d) := by
  rw [List.getD_eq_getElem?_getD, List.getD_eq_getElem?_getD, List.getElem?_map]
  cases l[n]? <;> rfl
theorem map_rg {f g : Nat → Nat} {n : Nat} (h : (List.range n).map f = (List.range n).map g) {k : Nat} (hk : k < n) : f k = g k :=
  List.map_inj_left.mp h k (List.mem_range.mpr hk)
theorem start_fix {L : Nat} {xs : Nat → Int32} {T : TS} {h' : Mem} (c : chkS (some T) = true) (r : Rep (h0 L xs) h' T) : Fix h'.2.2 ∧ mC h' = 21190 ∧ mN h' = 451 := by
  unfold chkS at c
  simp only [Bool.and_eq_true, decide_eq_true_eq] at c
  obtain ⟨⟨⟨c1, c2⟩, c3⟩, c4⟩ := c
  have c3 : T.1.length = 443 := Nat.eq_of_beq_eq_true c3
  have c4 : T.2 = 21190 := Nat.eq_of_beq_eq_true c4
  have nT : tN T = 451 := by unfold tN; omega
  refine ⟨⟨fun a h8 ha => ?_, ?_, ?_⟩, by rw [r.2.1, c4], by rw [r.1, nT]⟩
  · obtain ⟨x, y, -⟩ := r.2.2.2 a h8 (by omega)
    refine ⟨?_, fun _ _ k hk => ?_⟩
    · show mS h' a = _
      rw [x]
      have q := getD_map' (fun e : TE => (e.1, e.2.1)) T.1 (a - 8) (bl 0 0)
      rw [c1] at q
      exact q.symm.trans (getD_drop8 _ _ h8)
    · show mR h' a k = _
      rw [y]
      have q := getD_map' (fun e : TE => (List.range 40).map e.2.2.1) T.1 (a - 8) (bl 0 0)
      rw [c2] at q
      have q2 := getD_map' (fun l : List Nat => (List.range 40).map fun k => l.getD k 0) (tbR.drop 8) (a - 8) []
      rw [getD_drop8 _ _ h8] at q2
      exact map_rg (q.symm.trans q2) hk
  · show 451 ≤ mN h'
    rw [r.1, nT]
    exact Nat.le_refl _
  · have e : ∀ a, a < 8 → mS h' a = xS L a ∧ mR h' a = xR a := fun a ha => ⟨(r.2.2.1 a ha).1, (r.2.2.1 a ha).2.1⟩
    exact ⟨(e 1 (by decide)).1, (e 2 (by decide)).1, (e 3 (by decide)).1, (e 4 (by decide)).1, (e 5 (by decide)).1, congrFun (e 2 (by decide)).2 0, congrFun (e 3 (by decide)).2 0⟩
