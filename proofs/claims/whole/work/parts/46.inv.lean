/-! THE INVARIANT: two houses and two rows, the tape, what never changes. The relation of one text (TX) is a parameter here. -/
def TXok (TX : Vm → Zz → Nat → Int → Prop) : Prop := ∀ (V V' : Vm) (z : Zz) (q : Nat) (i : Int), V' 438 = V 438 → (∀ a, 450 < a → V' a = V a) → TX V z q i → TX V' z q i
def Txs (TX : Vm → Zz → Nat → Int → Prop) (V : Vm) (z : Zz) (H : Nat) (A : Int → Int) : Prop := V H 11 = A 1 ∧ (0 ≤ A 1 ∧ A 1 ≤ 4) ∧ V H 12 = A 2 ∧ (-1 ≤ A 2 ∧ A 2 < A 1) ∧ ∀ i, 0 ≤ i → i < A 1 → TX V z (z.1 (H + 8) i.toNat) i
def HR (TX : Vm → Zz → Nat → Int → Prop) (V : Vm) (z : Zz) (H : Nat) (A : Int → Int) : Prop := Kn V (H + 1) A ∧ Sts V H A ∧ Spi V H A ∧ Hed V H A ∧ Gai V H A ∧ Gue V H A ∧ Say V H A ∧ Tld V H A ∧ Txs TX V z H A
/-- what stands outside -/
def Ext (V : Vm) (I0 : Nat → Nat → Int32) : Prop := ∀ a, a < 8 → ∀ k : Nat, V a k = (I0 a k).toInt
def GI (TX : Vm → Zz → Nat → Int → Prop) (I0 : Nat → Nat → Int32) (V : Vm) (z : Zz) : Prop := HR TX V z 9 (V 436) ∧ HR TX V z 210 (V 437) ∧ V 437 1 ≤ V 436 1 ∧ Tap V ∧ Fau V ∧ Mrk V ∧ V 435 23 = 1 ∧ Ext V I0
section
variable {V V' : Vm} {A A' : Int → Int} {n : Int} {H t : Nat}
theorem Tk_c {k : Int} (h2 : V' (t + 2) = V (t + 2)) (h3 : V' (t + 3) = V (t + 3)) (h4 : V' (t + 4) = V (t + 4)) (a : A' (11 + k) = A (11 + k)) (b : A' (17 + k) = A (17 + k)) (h : Tk V t n A k) : Tk V' t n A' k := by
  unfold Tk at *; rw [h2, h3, h4, a, b]; exact h
theorem Tr_c (hn : n ≤ 6) (h0 : V' t = V t) (h2 : V' (t + 2) = V (t + 2)) (h3 : V' (t + 3) = V (t + 3)) (h4 : V' (t + 4) = V (t + 4)) (h5 : V' (t + 5) = V (t + 5)) (a : ∀ k, 7 ≤ k → k < 23 → A' k = A k) (b : ∀ k, 1425 ≤ k → k < 1450 → A' k = A k) (h : Tr V t n A) : Tr V' t n A' := by
  obtain ⟨a1, a2, a3, a4, a5, a6, a7⟩ := h
  refine ⟨fun k k0 k1 => Tk_c h2 h3 h4 (a _ (by omega) (by omega)) (a _ (by omega) (by omega)) (a1 k k0 k1), fun s s0 s1 => ?_, ?_, ?_, ?_, ?_, fun i i0 i1 => ?_⟩
  · have q := a2 s s0 s1
    unfold Ts at *
    rw [h4, a _ (by omega) (by omega)]; exact q
  · rw [h0, a 10 (by omega) (by omega)]; exact a3
  · rw [h0, a 7 (by omega) (by omega)]; exact a4
  · rw [h0, a 8 (by omega) (by omega)]; exact a5
  · rw [h0, a 9 (by omega) (by omega)]; exact a6
  · rw [a 9 (by omega) (by omega)] at i1
    rw [h5, b _ (by omega) (by omega)]
    exact a7 i i0 i1
theorem Kn_c (h0 : V' t = V t) (h1 : V' (t + 1) = V (t + 1)) (h2 : V' (t + 2) = V (t + 2)) (h3 : V' (t + 3) = V (t + 3)) (h4 : V' (t + 4) = V (t + 4)) (h5 : V' (t + 5) = V (t + 5)) (z : A' 0 = A 0) (a : ∀ k, 7 ≤ k → k < 35 → A' k = A k) (b : ∀ k, 1425 ≤ k → k < 1450 → A' k = A k) (h : Kn V t A) : Kn V' t A' := by
  obtain ⟨a1, a2, a3, a4⟩ := h
  unfold Kn
  rw [h0, h1, z]
  refine ⟨a1, a2, fun k k0 k1 => ?_, Tr_c a2.2 h0 h2 h3 h4 h5 (fun k k0 k1 => a k k0 (by omega)) b a4⟩
  rw [a _ (by omega) (by omega), a _ (by omega) (by omega)]
  exact a3 k k0 k1
theorem snp_c {i : Int} (hi : 0 ≤ i ∧ i < 30) (c : ∀ k, 165 ≤ k → k < 1425 → A' k = A k) : ∀ k, (k = 0 ∨ (7 ≤ k ∧ k < 23) ∨ (1425 ≤ k ∧ k < 1450)) → snp A' i k = snp A i k := by
  intro k hk
  unfold snp
  rcases hk with rfl | hk | hk
  · rw [if_pos rfl, if_pos rfl, c _ (by omega) (by omega)]
  · rw [if_neg (by omega), if_pos (by omega), if_neg (by omega), if_pos (by omega), c _ (by omega) (by omega)]
  · rw [if_neg (by omega), if_neg (by omega), if_neg (by omega), if_neg (by omega), c _ (by omega) (by omega)]
theorem sta_lt (h : 0 ≤ V H 9) (i : Int) (hi : 0 ≤ i) : H + 21 ≤ sta V H i ∧ sta V H i + 6 ≤ H + 201 := by
  unfold sta; omega
theorem Sts_w (h0 : V' H 9 = V H 9) (h1 : V' H 10 = V H 10) (hr : ∀ a, H + 21 ≤ a → a < H + 201 → V' a = V a) (z : A' 0 = A 0) (z3 : A' 3 = A 3) (a : ∀ k, 7 ≤ k → k < 35 → A' k = A k) (c : ∀ k, 165 ≤ k → k < 1450 → A' k = A k) (h : Sts V H A) : Sts V' H A' := by
  obtain ⟨a1, a2, a3, a4⟩ := h
  unfold Sts
  rw [h0, h1, z3]
  refine ⟨a1, a2, a3, fun i i0 i1 => ?_⟩
  obtain ⟨b1, b2, b3, b4⟩ := a4 i i0 i1
  have es : sta V' H i = sta V H i := by unfold sta; rw [h0]
  have sl := sta_lt (V := V) (H := H) a3.1 i i0
  have sc := snp_c (A := A) (A' := A') ⟨i0, by omega⟩ (fun k k0 k1 => c k k0 (by omega))
  have nc : ∀ k, (k = 0 ∨ (7 ≤ k ∧ k < 23)) → nxt A' i k = nxt A i k := by
    intro k hk
    unfold nxt
    rw [z3]
    split
    · exact snp_c (A := A) (A' := A') ⟨by omega, by omega⟩ (fun k k0 k1 => c k k0 (by omega)) k (by omega)
    · rcases hk with rfl | hk
      · exact z
      · exact a k hk.1 (by omega)
  unfold Stq
  rw [es, sc 0 (Or.inl rfl), nc 0 (Or.inl rfl), hr _ (by omega) (by omega)]
  refine ⟨b1, b2, Tr_c (by omega) (hr _ (by omega) (by omega)) (hr _ (by omega) (by omega)) (hr _ (by omega) (by omega)) (hr _ (by omega) (by omega)) (hr _ (by omega) (by omega)) (fun k k0 k1 => sc k (by omega)) (fun k k0 k1 => sc k (by omega)) b3, fun k k0 k1 => ?_⟩
  rw [nc _ (by omega), nc _ (by omega), a (29 + k) (by omega) (by omega)]
  exact b4 k k0 k1
theorem Sts_c (h0 : V' H = V H) (hr : ∀ a, H + 21 ≤ a → a < H + 201 → V' a = V a) (z : A' 0 = A 0) (z3 : A' 3 = A 3) (a : ∀ k, 7 ≤ k → k < 35 → A' k = A k) (c : ∀ k, 165 ≤ k → k < 1450 → A' k = A k) (h : Sts V H A) : Sts V' H A' := Sts_w (by rw [h0]) (by rw [h0]) hr z z3 a c h
theorem Spi_c (h0 : V' (H + 9) = V (H + 9)) (a : ∀ k, 35 ≤ k → k < 71 → A' k = A k) (h : Spi V H A) : Spi V' H A' := fun k k0 k1 => by
  rw [h0, a (35 + k) (by omega) (by omega), a (35 + (6 * (k % 6) + k / 6)) (by omega) (by omega)]; exact h k k0 k1
theorem Hed_c (h0 : V' (H + 10) = V (H + 10)) (a : ∀ k, 71 ≤ k → k < 107 → A' k = A k) (h : Hed V H A) : Hed V' H A' := fun k k0 k1 => by
  rw [h0, a _ (by omega) (by omega)]; exact h k k0 k1
theorem Gai_c (h0 : V' (H + 11) = V (H + 11)) (a : ∀ k, 125 ≤ k → k < 133 → A' k = A k) (h : Gai V H A) : Gai V' H A' := fun k k0 k1 => by
  rw [h0, a _ (by omega) (by omega)]; exact h k k0 k1
theorem Gue_c (h0 : V' (H + 12) = V (H + 12)) (h1 : V' (H + 13) = V (H + 13)) (h2 : V' (H + 14) = V (H + 14)) (b : A' 4 = A 4) (a : ∀ k, 107 ≤ k → k < 125 → A' k = A k) (h : Gue V H A) : Gue V' H A' := by
  obtain ⟨a1, a2, a3⟩ := h
  unfold Gue
  rw [h0, h1, h2, b]
  refine ⟨a1, a2, fun i i0 i1 => ?_⟩
  rw [a _ (by omega) (by omega), a _ (by omega) (by omega), a _ (by omega) (by omega)]
  exact a3 i i0 i1
theorem Say_c (h0 : V' (H + 15) = V (H + 15)) (h1 : V' (H + 16) = V (H + 16)) (h2 : V' (H + 17) = V (H + 17)) (b : A' 5 = A 5) (a : ∀ k, 133 ≤ k → k < 149 → A' k = A k) (h : Say V H A) : Say V' H A' := by
  obtain ⟨a1, a2, a3⟩ := h
  unfold Say
  rw [h0, h1, h2, b]
  refine ⟨a1, a2, fun i i0 i1 => ?_⟩
  rw [a _ (by omega) (by omega), a _ (by omega) (by omega)]
  exact a3 i i0 i1
theorem Tld_c (h0 : V' (H + 18) = V (H + 18)) (h1 : V' (H + 19) = V (H + 19)) (h2 : V' (H + 20) = V (H + 20)) (b : A' 6 = A 6) (b0 : A' 0 = A 0) (a : ∀ k, 149 ≤ k → k < 165 → A' k = A k) (h : Tld V H A) : Tld V' H A' := by
  obtain ⟨a1, a2, a3⟩ := h
  unfold Tld
  rw [h0, h1, h2, b, b0]
  refine ⟨a1, a2, fun i i0 i1 => ?_⟩
  rw [a _ (by omega) (by omega), a _ (by omega) (by omega)]
  exact a3 i i0 i1
theorem Txs_c {TX : Vm → Zz → Nat → Int → Prop} (T : TXok TX) {z : Zz} (h0 : V' H = V H) (hx : V' 438 = V 438) (ht : ∀ a, 450 < a → V' a = V a) (a1 : A' 1 = A 1) (a2 : A' 2 = A 2) (h : Txs TX V z H A) : Txs TX V' z H A' := by
  obtain ⟨b1, b2, b3, b4, b5⟩ := h
  unfold Txs
  rw [h0, a1, a2]
  exact ⟨b1, b2, b3, b4, fun i i0 i1 => T V V' z _ i hx ht (b5 i i0 i1)⟩
/-- nothing of a house has changed -/
theorem HR_c {TX : Vm → Zz → Nat → Int → Prop} (T : TXok TX) {z : Zz} (hV : ∀ a, (H ≤ a ∧ a < H + 201) ∨ 450 < a ∨ a = 438 → V' a = V a) (h : HR TX V z H A) : HR TX V' z H A := by
  obtain ⟨c1, c2, c3, c4, c5, c6, c7, c8, c9⟩ := h
  exact ⟨Kn_c (hV _ (by omega)) (hV _ (by omega)) (hV _ (by omega)) (hV _ (by omega)) (hV _ (by omega)) (hV _ (by omega)) rfl (fun _ _ _ => rfl) (fun _ _ _ => rfl) c1,
    Sts_c (hV _ (by omega)) (fun a h1 h2 => hV a (by omega)) rfl rfl (fun _ _ _ => rfl) (fun _ _ _ => rfl) c2,
    Spi_c (hV _ (by omega)) (fun _ _ _ => rfl) c3, Hed_c (hV _ (by omega)) (fun _ _ _ => rfl) c4, Gai_c (hV _ (by omega)) (fun _ _ _ => rfl) c5,
    Gue_c (hV _ (by omega)) (hV _ (by omega)) (hV _ (by omega)) rfl (fun _ _ _ => rfl) c6,
    Say_c (hV _ (by omega)) (hV _ (by omega)) (hV _ (by omega)) rfl (fun _ _ _ => rfl) c7,
    Tld_c (hV _ (by omega)) (hV _ (by omega)) (hV _ (by omega)) rfl rfl (fun _ _ _ => rfl) c8,
    Txs_c T (hV _ (by omega)) (hV _ (by omega)) (fun a ha => hV a (by omega)) rfl rfl c9⟩
theorem HR_Spi (hH : H < 300) {TX : Vm → Zz → Nat → Int → Prop} (T : TXok TX) {z : Zz} (hV : ∀ a, ((H ≤ a ∧ a < H + 201) ∨ 450 < a ∨ a = 438) → a ≠ H + 9 → V' a = V a) (hA : ∀ k, ¬ (35 ≤ k ∧ k < 71) → A' k = A k) (new : Spi V' H A') (h : HR TX V z H A) : HR TX V' z H A' := by
  obtain ⟨c1, c2, c3, c4, c5, c6, c7, c8, c9⟩ := h
  exact ⟨Kn_c (hV _ (by omega) (by omega)) (hV _ (by omega) (by omega)) (hV _ (by omega) (by omega)) (hV _ (by omega) (by omega)) (hV _ (by omega) (by omega)) (hV _ (by omega) (by omega)) (hA _ (by omega)) (fun k h1 h2 => hA k (by omega)) (fun k h1 h2 => hA k (by omega)) c1, Sts_c (hV _ (by omega) (by omega)) (fun a h1 h2 => hV a (by omega) (by omega)) (hA _ (by omega)) (hA _ (by omega)) (fun k h1 h2 => hA k (by omega)) (fun k h1 h2 => hA k (by omega)) c2, new, Hed_c (hV _ (by omega) (by omega)) (fun k h1 h2 => hA k (by omega)) c4, Gai_c (hV _ (by omega) (by omega)) (fun k h1 h2 => hA k (by omega)) c5, Gue_c (hV _ (by omega) (by omega)) (hV _ (by omega) (by omega)) (hV _ (by omega) (by omega)) (hA _ (by omega)) (fun k h1 h2 => hA k (by omega)) c6, Say_c (hV _ (by omega) (by omega)) (hV _ (by omega) (by omega)) (hV _ (by omega) (by omega)) (hA _ (by omega)) (fun k h1 h2 => hA k (by omega)) c7, Tld_c (hV _ (by omega) (by omega)) (hV _ (by omega) (by omega)) (hV _ (by omega) (by omega)) (hA _ (by omega)) (hA _ (by omega)) (fun k h1 h2 => hA k (by omega)) c8, Txs_c T (hV _ (by omega) (by omega)) (hV _ (by omega) (by omega)) (fun a ha => hV a (by omega) (by omega)) (hA _ (by omega)) (hA _ (by omega)) c9⟩
theorem HR_Hed (hH : H < 300) {TX : Vm → Zz → Nat → Int → Prop} (T : TXok TX) {z : Zz} (hV : ∀ a, ((H ≤ a ∧ a < H + 201) ∨ 450 < a ∨ a = 438) → a ≠ H + 10 → V' a = V a) (hA : ∀ k, ¬ (71 ≤ k ∧ k < 107) → A' k = A k) (new : Hed V' H A') (h : HR TX V z H A) : HR TX V' z H A' := by
  obtain ⟨c1, c2, c3, c4, c5, c6, c7, c8, c9⟩ := h
  exact ⟨Kn_c (hV _ (by omega) (by omega)) (hV _ (by omega) (by omega)) (hV _ (by omega) (by omega)) (hV _ (by omega) (by omega)) (hV _ (by omega) (by omega)) (hV _ (by omega) (by omega)) (hA _ (by omega)) (fun k h1 h2 => hA k (by omega)) (fun k h1 h2 => hA k (by omega)) c1, Sts_c (hV _ (by omega) (by omega)) (fun a h1 h2 => hV a (by omega) (by omega)) (hA _ (by omega)) (hA _ (by omega)) (fun k h1 h2 => hA k (by omega)) (fun k h1 h2 => hA k (by omega)) c2, Spi_c (hV _ (by omega) (by omega)) (fun k h1 h2 => hA k (by omega)) c3, new, Gai_c (hV _ (by omega) (by omega)) (fun k h1 h2 => hA k (by omega)) c5, Gue_c (hV _ (by omega) (by omega)) (hV _ (by omega) (by omega)) (hV _ (by omega) (by omega)) (hA _ (by omega)) (fun k h1 h2 => hA k (by omega)) c6, Say_c (hV _ (by omega) (by omega)) (hV _ (by omega) (by omega)) (hV _ (by omega) (by omega)) (hA _ (by omega)) (fun k h1 h2 => hA k (by omega)) c7, Tld_c (hV _ (by omega) (by omega)) (hV _ (by omega) (by omega)) (hV _ (by omega) (by omega)) (hA _ (by omega)) (hA _ (by omega)) (fun k h1 h2 => hA k (by omega)) c8, Txs_c T (hV _ (by omega) (by omega)) (hV _ (by omega) (by omega)) (fun a ha => hV a (by omega) (by omega)) (hA _ (by omega)) (hA _ (by omega)) c9⟩
theorem HR_Gai (hH : H < 300) {TX : Vm → Zz → Nat → Int → Prop} (T : TXok TX) {z : Zz} (hV : ∀ a, ((H ≤ a ∧ a < H + 201) ∨ 450 < a ∨ a = 438) → a ≠ H + 11 → V' a = V a) (hA : ∀ k, ¬ (125 ≤ k ∧ k < 133) → A' k = A k) (new : Gai V' H A') (h : HR TX V z H A) : HR TX V' z H A' := by
  obtain ⟨c1, c2, c3, c4, c5, c6, c7, c8, c9⟩ := h
  exact ⟨Kn_c (hV _ (by omega) (by omega)) (hV _ (by omega) (by omega)) (hV _ (by omega) (by omega)) (hV _ (by omega) (by omega)) (hV _ (by omega) (by omega)) (hV _ (by omega) (by omega)) (hA _ (by omega)) (fun k h1 h2 => hA k (by omega)) (fun k h1 h2 => hA k (by omega)) c1, Sts_c (hV _ (by omega) (by omega)) (fun a h1 h2 => hV a (by omega) (by omega)) (hA _ (by omega)) (hA _ (by omega)) (fun k h1 h2 => hA k (by omega)) (fun k h1 h2 => hA k (by omega)) c2, Spi_c (hV _ (by omega) (by omega)) (fun k h1 h2 => hA k (by omega)) c3, Hed_c (hV _ (by omega) (by omega)) (fun k h1 h2 => hA k (by omega)) c4, new, Gue_c (hV _ (by omega) (by omega)) (hV _ (by omega) (by omega)) (hV _ (by omega) (by omega)) (hA _ (by omega)) (fun k h1 h2 => hA k (by omega)) c6, Say_c (hV _ (by omega) (by omega)) (hV _ (by omega) (by omega)) (hV _ (by omega) (by omega)) (hA _ (by omega)) (fun k h1 h2 => hA k (by omega)) c7, Tld_c (hV _ (by omega) (by omega)) (hV _ (by omega) (by omega)) (hV _ (by omega) (by omega)) (hA _ (by omega)) (hA _ (by omega)) (fun k h1 h2 => hA k (by omega)) c8, Txs_c T (hV _ (by omega) (by omega)) (hV _ (by omega) (by omega)) (fun a ha => hV a (by omega) (by omega)) (hA _ (by omega)) (hA _ (by omega)) c9⟩
theorem HR_Gue (hH : H < 300) {TX : Vm → Zz → Nat → Int → Prop} (T : TXok TX) {z : Zz} (hV : ∀ a, ((H ≤ a ∧ a < H + 201) ∨ 450 < a ∨ a = 438) → a ≠ H + 12 → a ≠ H + 13 → a ≠ H + 14 → V' a = V a) (hA : ∀ k, ¬ (k = 4 ∨ (107 ≤ k ∧ k < 125)) → A' k = A k) (new : Gue V' H A') (h : HR TX V z H A) : HR TX V' z H A' := by
  obtain ⟨c1, c2, c3, c4, c5, c6, c7, c8, c9⟩ := h
  exact ⟨Kn_c (hV _ (by omega) (by omega) (by omega) (by omega)) (hV _ (by omega) (by omega) (by omega) (by omega)) (hV _ (by omega) (by omega) (by omega) (by omega)) (hV _ (by omega) (by omega) (by omega) (by omega)) (hV _ (by omega) (by omega) (by omega) (by omega)) (hV _ (by omega) (by omega) (by omega) (by omega)) (hA _ (by omega)) (fun k h1 h2 => hA k (by omega)) (fun k h1 h2 => hA k (by omega)) c1, Sts_c (hV _ (by omega) (by omega) (by omega) (by omega)) (fun a h1 h2 => hV a (by omega) (by omega) (by omega) (by omega)) (hA _ (by omega)) (hA _ (by omega)) (fun k h1 h2 => hA k (by omega)) (fun k h1 h2 => hA k (by omega)) c2, Spi_c (hV _ (by omega) (by omega) (by omega) (by omega)) (fun k h1 h2 => hA k (by omega)) c3, Hed_c (hV _ (by omega) (by omega) (by omega) (by omega)) (fun k h1 h2 => hA k (by omega)) c4, Gai_c (hV _ (by omega) (by omega) (by omega) (by omega)) (fun k h1 h2 => hA k (by omega)) c5, new, Say_c (hV _ (by omega) (by omega) (by omega) (by omega)) (hV _ (by omega) (by omega) (by omega) (by omega)) (hV _ (by omega) (by omega) (by omega) (by omega)) (hA _ (by omega)) (fun k h1 h2 => hA k (by omega)) c7, Tld_c (hV _ (by omega) (by omega) (by omega) (by omega)) (hV _ (by omega) (by omega) (by omega) (by omega)) (hV _ (by omega) (by omega) (by omega) (by omega)) (hA _ (by omega)) (hA _ (by omega)) (fun k h1 h2 => hA k (by omega)) c8, Txs_c T (hV _ (by omega) (by omega) (by omega) (by omega)) (hV _ (by omega) (by omega) (by omega) (by omega)) (fun a ha => hV a (by omega) (by omega) (by omega) (by omega)) (hA _ (by omega)) (hA _ (by omega)) c9⟩
theorem HR_Say (hH : H < 300) {TX : Vm → Zz → Nat → Int → Prop} (T : TXok TX) {z : Zz} (hV : ∀ a, ((H ≤ a ∧ a < H + 201) ∨ 450 < a ∨ a = 438) → a ≠ H + 15 → a ≠ H + 16 → a ≠ H + 17 → V' a = V a) (hA : ∀ k, ¬ (k = 5 ∨ (133 ≤ k ∧ k < 149)) → A' k = A k) (new : Say V' H A') (h : HR TX V z H A) : HR TX V' z H A' := by
  obtain ⟨c1, c2, c3, c4, c5, c6, c7, c8, c9⟩ := h
  exact ⟨Kn_c (hV _ (by omega) (by omega) (by omega) (by omega)) (hV _ (by omega) (by omega) (by omega) (by omega)) (hV _ (by omega) (by omega) (by omega) (by omega)) (hV _ (by omega) (by omega) (by omega) (by omega)) (hV _ (by omega) (by omega) (by omega) (by omega)) (hV _ (by omega) (by omega) (by omega) (by omega)) (hA _ (by omega)) (fun k h1 h2 => hA k (by omega)) (fun k h1 h2 => hA k (by omega)) c1, Sts_c (hV _ (by omega) (by omega) (by omega) (by omega)) (fun a h1 h2 => hV a (by omega) (by omega) (by omega) (by omega)) (hA _ (by omega)) (hA _ (by omega)) (fun k h1 h2 => hA k (by omega)) (fun k h1 h2 => hA k (by omega)) c2, Spi_c (hV _ (by omega) (by omega) (by omega) (by omega)) (fun k h1 h2 => hA k (by omega)) c3, Hed_c (hV _ (by omega) (by omega) (by omega) (by omega)) (fun k h1 h2 => hA k (by omega)) c4, Gai_c (hV _ (by omega) (by omega) (by omega) (by omega)) (fun k h1 h2 => hA k (by omega)) c5, Gue_c (hV _ (by omega) (by omega) (by omega) (by omega)) (hV _ (by omega) (by omega) (by omega) (by omega)) (hV _ (by omega) (by omega) (by omega) (by omega)) (hA _ (by omega)) (fun k h1 h2 => hA k (by omega)) c6, new, Tld_c (hV _ (by omega) (by omega) (by omega) (by omega)) (hV _ (by omega) (by omega) (by omega) (by omega)) (hV _ (by omega) (by omega) (by omega) (by omega)) (hA _ (by omega)) (hA _ (by omega)) (fun k h1 h2 => hA k (by omega)) c8, Txs_c T (hV _ (by omega) (by omega) (by omega) (by omega)) (hV _ (by omega) (by omega) (by omega) (by omega)) (fun a ha => hV a (by omega) (by omega) (by omega) (by omega)) (hA _ (by omega)) (hA _ (by omega)) c9⟩
theorem HR_Tld (hH : H < 300) {TX : Vm → Zz → Nat → Int → Prop} (T : TXok TX) {z : Zz} (hV : ∀ a, ((H ≤ a ∧ a < H + 201) ∨ 450 < a ∨ a = 438) → a ≠ H + 18 → a ≠ H + 19 → a ≠ H + 20 → V' a = V a) (hA : ∀ k, ¬ (k = 6 ∨ (149 ≤ k ∧ k < 165)) → A' k = A k) (new : Tld V' H A') (h : HR TX V z H A) : HR TX V' z H A' := by
  obtain ⟨c1, c2, c3, c4, c5, c6, c7, c8, c9⟩ := h
  exact ⟨Kn_c (hV _ (by omega) (by omega) (by omega) (by omega)) (hV _ (by omega) (by omega) (by omega) (by omega)) (hV _ (by omega) (by omega) (by omega) (by omega)) (hV _ (by omega) (by omega) (by omega) (by omega)) (hV _ (by omega) (by omega) (by omega) (by omega)) (hV _ (by omega) (by omega) (by omega) (by omega)) (hA _ (by omega)) (fun k h1 h2 => hA k (by omega)) (fun k h1 h2 => hA k (by omega)) c1, Sts_c (hV _ (by omega) (by omega) (by omega) (by omega)) (fun a h1 h2 => hV a (by omega) (by omega) (by omega) (by omega)) (hA _ (by omega)) (hA _ (by omega)) (fun k h1 h2 => hA k (by omega)) (fun k h1 h2 => hA k (by omega)) c2, Spi_c (hV _ (by omega) (by omega) (by omega) (by omega)) (fun k h1 h2 => hA k (by omega)) c3, Hed_c (hV _ (by omega) (by omega) (by omega) (by omega)) (fun k h1 h2 => hA k (by omega)) c4, Gai_c (hV _ (by omega) (by omega) (by omega) (by omega)) (fun k h1 h2 => hA k (by omega)) c5, Gue_c (hV _ (by omega) (by omega) (by omega) (by omega)) (hV _ (by omega) (by omega) (by omega) (by omega)) (hV _ (by omega) (by omega) (by omega) (by omega)) (hA _ (by omega)) (fun k h1 h2 => hA k (by omega)) c6, Say_c (hV _ (by omega) (by omega) (by omega) (by omega)) (hV _ (by omega) (by omega) (by omega) (by omega)) (hV _ (by omega) (by omega) (by omega) (by omega)) (hA _ (by omega)) (fun k h1 h2 => hA k (by omega)) c7, new, Txs_c T (hV _ (by omega) (by omega) (by omega) (by omega)) (hV _ (by omega) (by omega) (by omega) (by omega)) (fun a ha => hV a (by omega) (by omega) (by omega) (by omega)) (hA _ (by omega)) (hA _ (by omega)) c9⟩
/-- all but the class's house and the model's row is as it was -/
theorem GI_c {TX : Vm → Zz → Nat → Int → Prop} (T : TXok TX) {I0 : Nat → Nat → Int32} {z : Zz} (g : GI TX I0 V z) (hx : ∀ a k, scr a k = false → ¬ (9 ≤ a ∧ a < 210) → a ≠ 436 → V' a k = V a k) (hr : HR TX V' z 9 (V' 436)) (h1 : V 436 1 ≤ V' 436 1) : GI TX I0 V' z := by
  obtain ⟨g1, g2, g3, g4, g5, g6, g7, g8⟩ := g
  have row : ∀ a, (a < 411 ∨ a = 420 ∨ a = 432 ∨ (436 ≤ a ∧ a ≤ 439) ∨ 450 < a) → ¬ (9 ≤ a ∧ a < 210) → a ≠ 436 → V' a = V a := fun a h1 h2 h3 => funext fun k => hx a k (scr_F (by omega)) h2 h3
  have e437 : V' 437 = V 437 := row 437 (by omega) (by omega) (by omega)
  refine ⟨hr, ?_, ?_, ?_, ?_, ?_, ?_, ?_⟩
  · rw [e437]
    exact HR_c T (fun a ha => row a (by omega) (by omega) (by omega)) g2
  · rw [e437]; omega
  · unfold Tap at *
    rw [hx 419 1 (scr_F (by omega)) (by omega) (by omega), hx 435 4 (scr_F (by omega)) (by omega) (by omega), row 420 (by omega) (by omega) (by omega), row 439 (by omega) (by omega) (by omega)]
    exact g4
  · unfold Fau at *
    rw [hx 424 9 (scr_F (by omega)) (by omega) (by omega), hx 424 10 (scr_F (by omega)) (by omega) (by omega), hx 435 5 (scr_F (by omega)) (by omega) (by omega), hx 435 6 (scr_F (by omega)) (by omega) (by omega)]
    exact g5
  · intro r hr
    rw [row 432 (by omega) (by omega) (by omega)]; exact g6 r hr
  · rw [hx 435 23 (scr_F (by omega)) (by omega) (by omega)]; exact g7
  · intro a ha k
    rw [row a (by omega) (by omega) (by omega)]; exact g8 a ha k
theorem GI_core {TX : Vm → Zz → Nat → Int → Prop} (T : TXok TX) {I0 : Nat → Nat → Int32} {z : Zz} (g : GI TX I0 V z) (c : core V' = core V) : GI TX I0 V' z := by
  have e : V' 436 = V 436 := core_cl c (by omega)
  refine GI_c T g (fun a k h _ _ => core_at c h) ?_ (by rw [e]; exact Int.le_refl _)
  rw [e]
  exact HR_c T (fun a ha => core_cl c (by omega)) g.1
end
/-- a pair of calls: both answer alike, the invariant stays -/
def Pc (TX : Vm → Zz → Nat → Int → Prop) (I0 : Nat → Nat → Int32) (V J : Vm) (z : Zz) (X M : Mem → Rs) : Prop := ∃ e V1 J1 V2 J2, X (em V J z) = some (.int (iv e), em V1 J1 z) ∧ M (em V1 J1 z) = some (.int (iv e), em V2 J2 z) ∧ GI TX I0 V2 z
theorem Pq.pc {TX : Vm → Zz → Nat → Int → Prop} (T : TXok TX) {I0 : Nat → Nat → Int32} {V J : Vm} {z : Zz} {X M : Mem → Rs} (g : GI TX I0 V z) (h : Pq V J z X M) : Pc TX I0 V J z X M := by
  obtain ⟨e, V1, J1, V2, J2, h1, h2, h3, h4⟩ := h
  exact ⟨e, V1, J1, V2, J2, h1, h3, GI_core T g h4⟩
