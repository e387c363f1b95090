/-! locals: an abstract row of them against the frame's -/
theorem nth_setN_o : ∀ (L : List Value) (i j : Nat) (v : Value), j ≠ i → nth (setN L i v) j = nth L j
  | [], _, _, _, _ => rfl
  | _ :: _, 0, 0, _, h => absurd rfl h
  | _ :: _, 0, _ + 1, _, _ => rfl
  | _ :: _, _ + 1, 0, _, _ => rfl
  | _ :: l, i + 1, j + 1, v, h => nth_setN_o l i j v (fun e => h (by rw [e]))
theorem nth_setN_s : ∀ (L : List Value) (i : Nat) (v : Value), nth (setN L i v) i = v ∨ nth (setN L i v) i = dd
  | [], _, _ => Or.inr rfl
  | _ :: _, 0, _ => Or.inl rfl
  | _ :: l, i + 1, v => nth_setN_s l i v
theorem nth_kil : ∀ (L : List Value) (i j : Nat), nth (kil L i) j = dd ∨ (nth (kil L i) j = nth L j ∧ (j + 1 = i → (nth L j).category = 1))
  | [], _, _ => Or.inl rfl
  | v :: l, 0, j => Or.inr ⟨rfl, fun h => by omega⟩
  | v :: l, 1, 0 => by
    cases v <;> first | exact Or.inl rfl | exact Or.inr ⟨rfl, fun _ => rfl⟩
  | v :: l, 1, j + 1 => Or.inr ⟨rfl, fun h => by omega⟩
  | v :: l, i + 2, 0 => Or.inr ⟨rfl, fun h => by omega⟩
  | v :: l, i + 2, j + 1 => by
    rcases nth_kil l (i + 1) j with q | ⟨q1, q2⟩
    · exact Or.inl q
    · exact Or.inr ⟨q1, fun h => q2 (by omega)⟩
theorem nth_msk : ∀ (m : List Bool) (L : List Value) (j : Nat), nth (msk m L) j = dd ∨ nth (msk m L) j = nth L j
  | [], [], _ => Or.inl rfl
  | [], _ :: _, _ => Or.inl rfl
  | true :: _, [], _ => Or.inl rfl
  | false :: _, [], _ => Or.inl rfl
  | true :: _, _ :: _, 0 => Or.inr rfl
  | false :: _, _ :: _, 0 => Or.inl rfl
  | true :: m, _ :: l, j + 1 => nth_msk m l j
  | false :: m, _ :: l, j + 1 => nth_msk m l j
theorem nth_pad : ∀ (n : Nat) (L : List Value) (j : Nat), nth (pad n L) j = dd ∨ nth (pad n L) j = nth L j
  | 0, _, _ => Or.inl rfl
  | n + 1, [], 0 => Or.inl rfl
  | n + 1, [], j + 1 => by
    rcases nth_pad n [] j with q | q
    · exact Or.inl q
    · exact Or.inr q
  | n + 1, v :: l, 0 => Or.inr rfl
  | n + 1, v :: l, j + 1 => nth_pad n l j
section
variable {φ : Nat → Nat}
theorem cv_cat (v : Value) : (cv φ v).category = v.category := by
  cases v with
  | ref a => cases a <;> rfl
  | retAddr _ =>
    show (opq φ).category = 1
    unfold opq
    split <;> rfl
  | _ => rfl
def LR (φ : Nat → Nat) (ls : Array Slot) (nL : Nat) (L : List Value) : Prop := ∃ lv, lv_has ls nL lv ∧ ∀ i, nth L i ≠ dd → (i, cv φ (nth L i)) ∈ lv
theorem lr_sub {ls : Array Slot} {nL : Nat} {L L' : List Value} (h : LR φ ls nL L) (hs : ∀ i, nth L' i = dd ∨ nth L' i = nth L i) : LR φ ls nL L' := by
  obtain ⟨lv, h1, h2⟩ := h
  refine ⟨lv, h1, fun i hi => ?_⟩
  rcases hs i with q | q
  · exact absurd q hi
  · rw [q] at hi ⊢
    exact h2 i hi
theorem lr_at {ls : Array Slot} {nL : Nat} {L : List Value} (h : LR φ ls nL L) {i : Nat} {v : Value} (hv : nth L i = v) (hd : v ≠ dd) : ls[i]? = some (.val (cv φ v)) := by
  obtain ⟨lv, h1, h2⟩ := h
  have h3 := h2 i (by rw [hv]; exact hd)
  rw [hv] at h3
  exact h1.2.2 _ h3
theorem lr_st1 {ls' : Array Slot} {nL : Nat} {L : List Value} {lv : List (Nat × Value)} (h2 : ∀ i, nth L i ≠ dd → (i, cv φ (nth L i)) ∈ lv) {i : Nat} {v w : Value} (hw : cv φ v = w) (h' : lv_has ls' nL ((i, w) :: lv.filter (fun q => !(q.1 == i) && !(q.1 + 1 == i && q.2.category == 2)))) : LR φ ls' nL (st1 L i v) := by
  subst hw
  refine ⟨_, h', fun j hj => ?_⟩
  unfold st1 at hj ⊢
  by_cases e : j = i
  · subst e
    rcases nth_setN_s (kil L j) j v with q | q
    · rw [q]; exact List.mem_cons_self
    · exact absurd q hj
  · rw [nth_setN_o _ _ _ _ e] at hj ⊢
    rcases nth_kil L i j with q | ⟨q1, q2⟩
    · exact absurd q hj
    · rw [q1] at hj ⊢
      refine List.mem_cons_of_mem _ (List.mem_filter.mpr ⟨h2 j hj, ?_⟩)
      have e1 : (j == i) = false := by simp [e]
      rw [show ((j, cv φ (nth L j)).1 == i) = false from e1]
      by_cases e2 : j + 1 = i
      · have hc := q2 e2
        show (!false && !(j + 1 == i && (cv φ (nth L j)).category == 2)) = true
        rw [cv_cat, hc]
        simp
      · show (!false && !(j + 1 == i && (cv φ (nth L j)).category == 2)) = true
        have e3 : (j + 1 == i) = false := by simp [e2]
        rw [e3]
        rfl
theorem lr_st2 {ls' : Array Slot} {nL : Nat} {L : List Value} {lv : List (Nat × Value)} (h2 : ∀ i, nth L i ≠ dd → (i, cv φ (nth L i)) ∈ lv) {i : Nat} {v w : Value} (hw : cv φ v = w) (h' : lv_has ls' nL ((i, w) :: lv.filter (fun q => !(q.1 == i) && (!(q.1 == i + 1) && !(q.1 + 1 == i && q.2.category == 2))))) : LR φ ls' nL (st2 L i v) := by
  subst hw
  refine ⟨_, h', fun j hj => ?_⟩
  unfold st2 at hj ⊢
  by_cases e0 : j = i + 1
  · subst e0
    rcases nth_setN_s (setN (kil L i) i v) (i + 1) dd with q | q <;> exact absurd q hj
  · rw [nth_setN_o _ _ _ _ e0] at hj ⊢
    by_cases e : j = i
    · subst e
      rcases nth_setN_s (kil L j) j v with q | q
      · rw [q]; exact List.mem_cons_self
      · exact absurd q hj
    · rw [nth_setN_o _ _ _ _ e] at hj ⊢
      rcases nth_kil L i j with q | ⟨q1, q2⟩
      · exact absurd q hj
      · rw [q1] at hj ⊢
        refine List.mem_cons_of_mem _ (List.mem_filter.mpr ⟨h2 j hj, ?_⟩)
        have e1 : (j == i) = false := by simp [e]
        have e4 : (j == i + 1) = false := by simp [e0]
        show (!(j == i) && (!(j == i + 1) && !(j + 1 == i && (cv φ (nth L j)).category == 2))) = true
        rw [e1, e4]
        by_cases e2 : j + 1 = i
        · have hc := q2 e2
          rw [cv_cat, hc]
          simp
        · have e3 : (j + 1 == i) = false := by simp [e2]
          rw [e3]
          rfl
/-- at the entry -/
theorem lay_1 {v : Value} {l : List Value} (h : v.category = 1) : lay (v :: l) = v :: lay l := by
  cases v <;> first | rfl | (cases h)
theorem lay_2 {v : Value} {l : List Value} (h : v.category = 2) : lay (v :: l) = v :: dd :: lay l := by
  cases v <;> first | rfl | (cases h)
theorem cat_12 (v : Value) : v.category = 1 ∨ v.category = 2 := by
  cases v <;> first | exact Or.inl rfl | exact Or.inr rfl
theorem nth_args : ∀ (a : List Value) (k i : Nat), nth (lay a) i ≠ dd → (k + i, cv φ (nth (lay a) i)) ∈ lv_args k (a.map (cv φ)) := by
  intro a
  induction a with
  | nil => intro k i h; exact absurd rfl h
  | cons v l ih =>
    intro k i h
    rw [List.map_cons]
    show _ ∈ (k, cv φ v) :: lv_args (if (cv φ v).category = 2 then k + 2 else k + 1) (l.map (cv φ))
    rw [cv_cat]
    rcases cat_12 v with hc | hc
    · rw [lay_1 hc] at h ⊢
      rw [hc, if_neg (by decide)]
      cases i with
      | zero => exact List.mem_cons_self
      | succ j =>
        have := ih (k + 1) j h
        rw [show k + (j + 1) = k + 1 + j by omega]
        exact List.mem_cons_of_mem _ this
    · rw [lay_2 hc] at h ⊢
      rw [hc, if_pos rfl]
      rcases i with _ | _ | j
      · exact List.mem_cons_self
      · exact absurd rfl h
      · have := ih (k + 2) j h
        rw [show k + (j + 1 + 1) = k + 2 + j by omega]
        exact List.mem_cons_of_mem _ this
theorem lay_len (a : List Value) : (lg_sl (a.map (cv φ))).length = (lay a).length := by
  induction a with
  | nil => rfl
  | cons v l ih =>
    unfold lg_sl at ih ⊢
    rw [List.map_cons, List.flatMap_cons, List.length_append, ih, cv_cat]
    rcases cat_12 v with hc | hc
    · rw [lay_1 hc, hc]; simp; omega
    · rw [lay_2 hc, hc]; simp; omega
theorem lr_entry (a : List Value) (n : Nat) (hn : (lay a).length ≤ n) : LR φ ((lg_sl (a.map (cv φ)) ++ List.replicate (n - (lg_sl (a.map (cv φ))).length) Slot.unset).toArray) n (pad n (lay a)) := by
  refine lr_sub (L := lay a) ⟨lv_args 0 (a.map (cv φ)), lv_entry _ (by rw [lay_len]; exact hn), fun i hi => ?_⟩ (fun i => nth_pad n (lay a) i)
  have := nth_args (φ := φ) a 0 i hi
  rwa [Nat.zero_add] at this
end
