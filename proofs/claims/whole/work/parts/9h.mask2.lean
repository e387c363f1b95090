/-! THE READING: what is asked, the model's side -/
def Tq (l top : Int) : Prop := (top = 41 ∨ (20 ≤ top ∧ top ≤ 22)) ∧ (l = 3 ∨ rk top < l)
theorem rk_41 : rk 41 = 0 := rfl
theorem Tq.r4 {l top : Int} (h : Tq l top) : rk top ≤ 3 := by
  rcases h.1 with q | q
  · rw [q]; decide
  · have : top = 20 ∨ top = 21 ∨ top = 22 := by omega
    rcases this with r | r | r <;> rw [r] <;> decide
/-- an either (l = 1), a both (l = 2), an ask (l = 3), that was read up to token j -/
def MoQ (z : Zz) (s : Sm) (l i j d g : Int) (M : (Int → Int) → Int → Int) : Prop := ∀ U K p w k0, Md U K s i p d w k0 → p ≤ 6 * d + (l - 1) → (0 ≤ w ∧ w ≤ i) → (0 < p ∧ opn U k0 = 41 ∧ Tq l (U 440 (p - 1))) → ∃ U' U'' K' p' kc, Lp (em U K z) = Lp (em U' K' z) ∧ U' 435 18 = 1 ∧ Mt U' K' s j ∧ U' 435 16 = p' ∧ (p < p' ∧ p' ≤ p + (14 - d - l)) ∧ ((p ≤ kc ∧ kc < p') ∧ (10 ≤ U' 440 kc ∧ U' 440 kc ≤ 15) ∧ (∀ k, kc < k → k < p' → 6 ≤ U' 440 k ∧ U' 440 k ≤ 9) ∧ ∀ k, p ≤ k → k < kc → 20 ≤ U' 440 k ∧ U' 440 k ≤ 22) ∧ frQ s p w U U' ∧ Ps U'' K' s j p d (w + g) ∧ U'' 435 18 = 1 ∧ frQ s p w U U'' ∧ BE (fun q => U'' 438 (sX s + 73 + q)) w (w + g) M ∧ Pn z l U' U'' K'
def MnQ (z : Zz) (s : Sm) (l i j f d : Int) : Prop := ∀ U K p w k0, Md U K s i p d w k0 → p ≤ 6 * d + (l - 1) → (0 ≤ w ∧ w ≤ i) → (0 < p ∧ opn U k0 = 41 ∧ Tq l (U 440 (p - 1))) → ∃ U' K', Lp (em U K z) = some (.int (iv f), em U' K' z) ∧ U' 435 8 = sP s j ∧ frQ s p w U U'
section
variable {U U' K : Vm} {z : Zz} {s : Sm} {l i j j2 d g g1 g2 p w k0 f o : Int} {M M1 M2 : (Int → Int) → Int → Int}
theorem Tq.up {top : Int} (h : Tq l top) (hl : l = 1 ∨ l = 2) : Tq (l + 1) top := by
  unfold Tq at *
  omega
theorem MoQ.up (h : MoQ z s (l + 1) i j d g M) (hl : l = 1 ∨ l = 2) : MoQ z s l i j d g M := by
  intro U K p w k0 m hp hw ha
  obtain ⟨U', U'', K', p', kc, a1, a2, a3, a4, a5, a6, a7, a8, a9, a10, a11, a12⟩ := h U K p w k0 m (by omega) hw ⟨ha.1, ha.2.1, ha.2.2.up hl⟩
  exact ⟨U', U'', K', p', kc, a1, a2, a3, a4, by omega, a6, a7, a8, a9, a10, a11, fun q q1 q2 => a12 q q1 (by omega)⟩
theorem MnQ.up (h : MnQ z s (l + 1) i j f d) (hl : l = 1 ∨ l = 2) : MnQ z s l i j f d := by
  intro U K p w k0 m hp hw ha
  exact h U K p w k0 m (by omega) hw ⟨ha.1, ha.2.1, ha.2.2.up hl⟩
/-- what is open, and that it has been compared -/
theorem q_at {p' kc : Int} (P : Pl U p k0) (f : ∀ k, k < p → U' 440 k = U 440 k) (a5 : p < p') (a6 : (p ≤ kc ∧ kc < p') ∧ (10 ≤ U' 440 kc ∧ U' 440 kc ≤ 15) ∧ (∀ k, kc < k → k < p' → 6 ≤ U' 440 k ∧ U' 440 k ≤ 9) ∧ ∀ k, p ≤ k → k < kc → 20 ≤ U' 440 k ∧ U' 440 k ≤ 22) : (OAp U' p' k0 ∧ opn U' k0 = opn U k0) ∧ ICp U' p' kc ∧ (kc ≠ -1 ∧ U' 440 kc ≤ 19) := by
  obtain ⟨p0, O, v⟩ := P
  obtain ⟨b1, b2, b3, b4⟩ := a6
  refine ⟨O.mv (by omega) (fun j _ j1 => f j j1) (fun j j0 j1 => ?_) p0, ⟨by omega, fun j j0 j1 => by have := b3 j j0 j1; omega, Or.inr (by omega)⟩, by omega, by omega⟩
  by_cases h1 : j < kc
  · have := b4 j j0 h1; omega
  · by_cases h2 : j = kc
    · rw [h2]; omega
    · have := b3 j (by omega) j1; omega
theorem MoQ.go (F : Fix z) (S : SO s) (h1 : MoQ z s l i j d g1 M1) (hl : l = 1 ∨ l = 2) (hd : 0 ≤ d ∧ d ≤ 8) (hi : 0 ≤ i ∧ i ≤ j ∧ j < sM s) (hg : 0 ≤ g1 ∧ g1 ≤ j - i) (hk : sK s j = 21 + l) (m : Md U K s i p d w k0) (hp : p ≤ 6 * d + (l - 1)) (hw : 0 ≤ w ∧ w ≤ i) (ha : 0 < p ∧ opn U k0 = 41 ∧ Tq l (U 440 (p - 1))) : ∃ U3 K3, Lp (em U K z) = Lp (em U3 K3 z) ∧ Md U3 K3 s (j + 1) (p + 1) d (w + g1) k0 ∧ U3 440 p = 23 - l ∧ opn U3 k0 = 41 ∧ frQ s p w U U3 ∧ BE (fun q => U3 438 (sX s + 73 + q)) w (w + g1) M1 := by
  have v := m.2.2.2.2
  have p0 := m.2.2.1
  have S1 := S.1
  obtain ⟨U', U'', K', p', kc, a1, a2, a3, a4, a5, a6, a7, a8, a9, a10, a11, a12⟩ := h1 U K p w k0 m hp hw ha
  obtain ⟨⟨q1, q2⟩, q3, q4⟩ := q_at m.2.2 a7.2.2.1 a5.1 a6
  have tq := ha.2.2
  have bt := y_between_and (z := z) F a3.2 (by omega) a4 (by omega) q1 (by rw [q2]; exact ha.2.1) q3 q4
  have ov : (if sK s j = 23 then (21 : Int) else if sK s j = 22 then 22 else -1) = 23 - l := by
    rcases hl with rfl | rfl
    · rw [if_neg (by omega), if_pos (by omega)]; rfl
    · rw [if_pos (by omega)]; rfl
  rw [ov] at bt
  have ro : rk (23 - l) = l := by rcases hl with rfl | rfl <;> rfl
  have st := stop_ (l := l) F a8 (by omega) (fun j j0 j1 => by rw [a10.2.2.1 j j1]; exact v j j0 j1) ((show Tp U p l from Or.inr (by have := tq.2; omega)).mv a10.2.2.1) (by omega)
  have se := (a12 l (by omega) (Int.le_refl _)).trans st
  obtain ⟨U3, K3, b1, b2, b3, b4, b5⟩ := l_op (l := l) F S a2 bt (by omega) (by rw [ro, if_neg (by omega)]) se a8 (by omega) (by omega)
  have f3 := a10.tr b4 (Int.le_refl _) (by omega)
  have pl := m.2.2.push (U' := U3) f3.2.2.1 b5 (by omega)
  refine ⟨U3, K3, a1.trans b1, ⟨b2, b3, pl.1⟩, b5, pl.2.trans ha.2.1, f3, a11.ext (fun q q0 q1 => ?_)⟩
  exact b4.2.2.2 _ (Or.inl (by omega))
theorem join_c {k : Int} (hl : l = 1 ∨ l = 2) (hk : k = 21 + l) : (k = 23 ∧ 23 - l = 21) ∨ (k = 22 ∧ 23 - l = 22) := by omega
theorem MoQ.step (F : Fix z) (S : SO s) (h1 : MoQ z s l i j d g1 M1) (h2 : MoQ z s (l + 1) (j + 1) j2 d g2 M2) (hl : l = 1 ∨ l = 2) (hd : 0 ≤ d ∧ d ≤ 8) (hi : 0 ≤ i ∧ i ≤ j ∧ j < sM s ∧ j2 ≤ sM s) (hg : 0 < g1 ∧ g1 ≤ j - i) (hg2 : 0 < g2 ∧ g2 ≤ j2 - (j + 1)) (hk : sK s j = 21 + l) (B1 : M01 M1) (B2 : M01 M2) : MoQ z s l i j2 d (g1 + g2 + 1) (fun A k => asV (sK s j) (M1 A k) (M2 A k)) := by
  intro U K p w k0 m hp hw ha
  have S1 := S.1
  have p0 := m.2.2.1
  obtain ⟨U3, K3, b1, b2, b3, b31, b4, b5⟩ := h1.go F S hl hd (by omega) (by omega) hk m hp hw ha
  have ro : rk (23 - l) = l := by rcases hl with rfl | rfl <;> rfl
  obtain ⟨U4, W4, K4, p4, kc, c1, c2, c3, c4, c5, c6, c7, c8, c9, c10, c11, c12⟩ := h2 U3 K3 (p + 1) (w + g1) k0 b2 (by omega) (by omega) ⟨by omega, b31, by rw [show p + 1 - 1 = p by omega, b3]; exact ⟨Or.inr (by omega), Or.inr (by rw [ro]; omega)⟩⟩
  have t4 : W4 440 p = 23 - l := (c10.2.2.1 p (by omega)).trans b3
  have t4' : U4 440 p = 23 - l := (c7.2.2.1 p (by omega)).trans b3
  obtain ⟨e1, e2, e3, e4, e5⟩ := pop_ F S c8 (by omega) (by omega) (by omega) t4 (by omega) c9
  rw [if_neg (by rw [ro]; omega)] at e2
  rw [ro] at e1
  have fU4 : frQ s p w U U4 := b4.tr c7 (by omega) (by omega)
  have fW4 : frQ s p w U W4 := b4.tr c10 (by omega) (by omega)
  have m1 : BE (fun q => popM W4 438 (sX s + 73 + q)) w (w + g1) M1 := b5.ext (fun q q0 q1 => (e4.2.2.2 _ (Or.inl (by omega))).trans (c10.2.2.2 _ (Or.inl (by omega))))
  have m2 : BE (fun q => popM W4 438 (sX s + 73 + q)) (w + g1) (w + g1 + g2) M2 := c11.ext (fun q q0 q1 => e4.2.2.2 _ (Or.inl (by omega)))
  have m3 := BE_join m1 m2 B1 B2 (join_c hl hk) e5 (by omega)
  refine ⟨U4, popM W4, K4, p4, kc, b1.trans c1, c2, c3, c4, by omega, ⟨by omega, c6.2.1, c6.2.2.1, fun k k0 k1 => ?_⟩, fU4, ?_, e3, fW4.tr e4 (by omega) (by omega), ?_, fun q q1 q2 => (c12 q q1 (by omega)).trans (e1 q q1 q2)⟩
  · by_cases x : k = p
    · rw [x, t4']; omega
    · exact c6.2.2.2 k (by omega) k1
  · rw [show w + (g1 + g2 + 1) = w + g1 + g2 + 1 by omega]; exact e2
  · rw [show w + (g1 + g2 + 1) = w + g1 + g2 + 1 by omega]; exact m3
theorem MnQ.step (F : Fix z) (S : SO s) (h1 : MoQ z s l i j d g1 M1) (h2 : MnQ z s (l + 1) (j + 1) j2 f d) (hl : l = 1 ∨ l = 2) (hd : 0 ≤ d ∧ d ≤ 8) (hi : 0 ≤ i ∧ i ≤ j ∧ j < sM s) (hg : 0 < g1 ∧ g1 ≤ j - i) (hk : sK s j = 21 + l) : MnQ z s l i j2 f d := by
  intro U K p w k0 m hp hw ha
  have S1 := S.1
  have p0 := m.2.2.1
  obtain ⟨U3, K3, b1, b2, b3, b31, b4, b5⟩ := h1.go F S hl hd (by omega) (by omega) hk m hp hw ha
  have ro : rk (23 - l) = l := by rcases hl with rfl | rfl <;> rfl
  obtain ⟨U4, K4, c1, c2, c3⟩ := h2 U3 K3 (p + 1) (w + g1) k0 b2 (by omega) (by omega) ⟨by omega, b31, by rw [show p + 1 - 1 = p by omega, b3]; exact ⟨Or.inr (by omega), Or.inr (by rw [ro]; omega)⟩⟩
  exact ⟨U4, K4, b1.trans c1, c2, b4.tr c3 (by omega) (by omega)⟩
/-- not -/
theorem not_go (F : Fix z) (S : SO s) (hk : sK s i = 24) (m : Md U K s i p d w k0) (hd : 0 ≤ d ∧ d ≤ 8) (hp : p ≤ 6 * d + 2) (hi : 0 ≤ i ∧ i < sM s) (ha : 0 < p ∧ opn U k0 = 41 ∧ Tq 3 (U 440 (p - 1))) : (d = 8 → Lp (em U K z) = some (.int (iv 3), em U K z)) ∧ (d < 8 → ∃ U3 K3, Lp (em U K z) = Lp (em U3 K3 z) ∧ Md U3 K3 s (i + 1) (p + 1) (d + 1) w k0 ∧ U3 440 p = 20 ∧ opn U3 k0 = 41 ∧ frQ s p w U U3) := by
  obtain ⟨mp, m18, mpl⟩ := m
  have v := mpl.2.2
  have t := ha.2.2.1
  have ah := y_ahT (K := K) (z := z) F mp.2.1 (by omega) mpl.2.1 (by omega) ⟨ha.2.1, by omega⟩
  have l39 := l_39 (z := z) F S mp m18 (by omega) (nmO_no (by omega))
  rw [y_39t F mp.1.2 hk ah] at l39
  have lo := l_opened (z := z) F S mp hi hd (by omega) (o := 20)
  refine ⟨fun h => l39.trans (lo.1 h), fun h => ?_⟩
  obtain ⟨U3, K3, b1, b2, b3, b4, b5⟩ := lo.2 h
  have pl := mpl.push (U' := U3) b4.2.2.1 b5 (by omega)
  exact ⟨U3, K3, l39.trans b1, ⟨b2, b3.trans m18, pl.1⟩, b5, pl.2.trans ha.2.1, b4⟩
theorem MoQ.not_ (F : Fix z) (S : SO s) (hk : sK s i = 24) (h2 : MoQ z s 3 (i + 1) j (d + 1) g M) (hd : 0 ≤ d ∧ d < 8) (hi : 0 ≤ i ∧ i < sM s ∧ j ≤ sM s) (hg : 0 < g ∧ g ≤ j - (i + 1)) (B : M01 M) : MoQ z s 3 i j d (g + 1) (fun A k => onV A 24 (M A k)) := by
  intro U K p w k0 m hp hw ha
  have S1 := S.1
  have p0 := m.2.2.1
  obtain ⟨U3, K3, b1, b2, b3, b31, b4⟩ := (not_go F S hk m (by omega) (by omega) (by omega) ha).2 (by omega)
  obtain ⟨U4, W4, K4, p4, kc, c1, c2, c3, c4, c5, c6, c7, c8, c9, c10, c11, c12⟩ := h2 U3 K3 (p + 1) w k0 b2 (by omega) (by omega) ⟨by omega, b31, by rw [show p + 1 - 1 = p by omega, b3]; exact ⟨Or.inr (by omega), Or.inl rfl⟩⟩
  have t4 : W4 440 p = 20 := (c10.2.2.1 p (by omega)).trans b3
  have t4' : U4 440 p = 20 := (c7.2.2.1 p (by omega)).trans b3
  obtain ⟨e1, e2, e3, e4, e5⟩ := pop_ F S c8 (by omega) (by omega) (by omega) t4 (by omega) c9
  rw [if_pos (Or.inr rfl), show d + 1 - 1 = d by omega] at e2
  have r3 : rk 20 = 3 := rfl
  rw [r3] at e1
  have fU4 : frQ s p w U U4 := b4.tr c7 (by omega) (by omega)
  have fW4 : frQ s p w U W4 := b4.tr c10 (by omega) (by omega)
  have m1 : BE (fun q => popM W4 438 (sX s + 73 + q)) w (w + g) M := c11.ext (fun q q0 q1 => e4.2.2.2 _ (Or.inl (by omega)))
  have m3 := BE_not m1 B e5
  refine ⟨U4, popM W4, K4, p4, kc, b1.trans c1, c2, c3, c4, by omega, ⟨by omega, c6.2.1, c6.2.2.1, fun k k0 k1 => ?_⟩, fU4, ?_, e3, fW4.tr e4 (by omega) (by omega), ?_, fun q q1 q2 => (c12 q q1 q2).trans (e1 q q1 q2)⟩
  · by_cases x : k = p
    · rw [x, t4']; omega
    · exact c6.2.2.2 k (by omega) k1
  · rw [show w + (g + 1) = w + g + 1 by omega]; exact e2
  · rw [show w + (g + 1) = w + g + 1 by omega]; exact m3
theorem MnQ.not_ (F : Fix z) (S : SO s) (hk : sK s i = 24) (h2 : MnQ z s 3 (i + 1) j f (d + 1)) (hd : 0 ≤ d ∧ d < 8) (hi : 0 ≤ i ∧ i < sM s) : MnQ z s 3 i j f d := by
  intro U K p w k0 m hp hw ha
  have p0 := m.2.2.1
  obtain ⟨U3, K3, b1, b2, b3, b31, b4⟩ := (not_go F S hk m (by omega) (by omega) (by omega) ha).2 (by omega)
  obtain ⟨U4, K4, c1, c2, c3⟩ := h2 U3 K3 (p + 1) w k0 b2 (by omega) (by omega) ⟨by omega, b31, by rw [show p + 1 - 1 = p by omega, b3]; exact ⟨Or.inr (by omega), Or.inl rfl⟩⟩
  exact ⟨U4, K4, b1.trans c1, c2, b4.tr c3 (by omega) (by omega)⟩
theorem MnQ.deep (F : Fix z) (S : SO s) (hk : sK s i = 24) (hi : 0 ≤ i ∧ i < sM s) : MnQ z s 3 i i 3 8 := by
  intro U K p w k0 m hp hw ha
  have r := (not_go F S hk m (by omega) (by omega) (by omega) ha).1 rfl
  exact ⟨U, K, r, m.1.1.2.2.1, frQ.rfl_⟩
/-- a comparison -/
theorem cmp_at {p' : Int} (P : Pl U p k0) (f : ∀ k, k < p → U' 440 k = U 440 k) (a5 : p ≤ p') (a6 : ∀ k, p ≤ k → k < p' → 6 ≤ U' 440 k ∧ U' 440 k ≤ 9) (p1 : 0 < p) (t : U 440 (p - 1) = 41 ∨ (20 ≤ U 440 (p - 1) ∧ U 440 (p - 1) ≤ 22)) : (OAp U' p' k0 ∧ opn U' k0 = opn U k0) ∧ ICp U' p' (p - 1) ∧ ¬ (p - 1 ≠ -1 ∧ U' 440 (p - 1) ≤ 19) := by
  obtain ⟨p0, O, v⟩ := P
  have e := f (p - 1) (by omega)
  refine ⟨O.mv a5 (fun j _ j1 => f j j1) (fun j j0 j1 => by have := a6 j j0 j1; omega) p0, ⟨by omega, fun j j0 j1 => by have := a6 j (by omega) j1; omega, Or.inr (by rw [e]; omega)⟩, by rw [e]; omega⟩
theorem cmO_rg {k : Int} (h : (25 ≤ k ∧ k ≤ 28) ∨ k = 36 ∨ k = 37) : (10 ≤ cmO k ∧ cmO k ≤ 15) ∧ rk (cmO k) = 4 ∧ ((k = 25 ∧ cmO k = 10) ∨ (k = 36 ∧ cmO k = 11) ∨ (k = 26 ∧ cmO k = 12) ∨ (k = 37 ∧ cmO k = 13) ∨ (k = 27 ∧ cmO k = 14) ∨ (k = 28 ∧ cmO k = 15)) := by
  have : k = 25 ∨ k = 26 ∨ k = 27 ∨ k = 28 ∨ k = 36 ∨ k = 37 := by omega
  rcases this with rfl | rfl | rfl | rfl | rfl | rfl <;> decide
theorem cmO_no {k : Int} (h : ¬ ((25 ≤ k ∧ k ≤ 28) ∨ k = 36 ∨ k = 37)) : cmO k = -1 := by
  unfold cmO
  rw [if_neg (by omega), if_neg (by omega), if_neg (by omega), if_neg (by omega), if_neg (by omega), if_neg (by omega)]
theorem cmp_go (F : Fix z) (S : SO s) (h1 : MoA z s 5 i j d g1 M1) (hd : 0 ≤ d ∧ d ≤ 8) (hi : 0 ≤ i ∧ i ≤ j ∧ j ≤ sM s) (hg : 0 ≤ g1 ∧ g1 ≤ j - i) (h24 : sK s i ≠ 24) (hs : StA s 5 j) (m : Md U K s i p d w k0) (hp : p ≤ 6 * d + 2) (hw : 0 ≤ w ∧ w ≤ i) (ha : 0 < p ∧ opn U k0 = 41 ∧ Tq 3 (U 440 (p - 1))) : (¬ ((25 ≤ sK s j ∧ sK s j ≤ 28) ∨ sK s j = 36 ∨ sK s j = 37) → ∃ U' K', Lp (em U K z) = some (.int (iv 1), em U' K' z) ∧ U' 435 8 = sP s j ∧ frQ s p w U U') ∧ ((25 ≤ sK s j ∧ sK s j ≤ 28) ∨ sK s j = 36 ∨ sK s j = 37 → j < sM s → ∃ U3 K3, Lp (em U K z) = Lp (em U3 K3 z) ∧ Md U3 K3 s (j + 1) (p + 1) d (w + g1) k0 ∧ U3 440 p = cmO (sK s j) ∧ frQ s p w U U3 ∧ ME (fun q => U3 438 (sX s + 73 + q)) w (w + g1) M1) := by
  have v := m.2.2.2.2
  have p0 := m.2.2.1
  have S1 := S.1
  have tq := ha.2.2
  have r4 := tq.r4
  have nar : ¬ (29 ≤ sK s j ∧ sK s j ≤ 32) := by
    have a := hs.1 (by decide)
    have b := hs.2 (by decide)
    omega
  obtain ⟨U', U'', K', p', a1, a2, a3, a4, a5, a6, a7, a8, a9, a10, a11, a12⟩ := h1 U K p w k0 m (by omega) hw (fun x => absurd x h24) (Or.inr (by omega))
  obtain ⟨⟨q1, q2⟩, q3, q4⟩ := cmp_at m.2.2 a7.2.2.1 a5.1 a6 ha.1 tq.1
  have bt := y_between_cmp (z := z) F a3.2 nar a4 (by omega) q1 (by rw [q2]; exact ha.2.1) q3 q4
  constructor
  · intro nc
    rw [cmO_no nc] at bt
    have on := y_openNow (K := K') (z := z) F a4 (by omega) q1
    rw [q2, ha.2.1] at on
    have pt := y_part41 (z := z) F a3.2 a4 (by omega) q3
    rw [if_neg (fun x => q4 x.2)] at pt
    exact ⟨U', K', a1.trans (l_none1 F a2 bt on (by decide) pt), a3.2.2.1, a7⟩
  · intro c jm
    obtain ⟨c1, c2, c3⟩ := cmO_rg c
    have st := stop_ (l := 5) F a8 (by omega) (fun j j0 j1 => by rw [a10.2.2.1 j j1]; exact v j j0 j1) ((show Tp U p 5 from Or.inr (by omega)).mv a10.2.2.1) (by omega)
    have se := (a12 5 (by omega) (Int.le_refl _)).trans st
    obtain ⟨U3, K3, b1, b2, b3, b4, b5⟩ := l_op (l := 5) F S a2 bt (by omega) (by rw [c2, if_pos rfl]) se a8 (by omega) (by omega)
    have f3 := a10.tr b4 (Int.le_refl _) (by omega)
    have pl := m.2.2.push (U' := U3) f3.2.2.1 b5 (by omega)
    refine ⟨U3, K3, a1.trans b1, ⟨b2, b3, pl.1⟩, b5, f3, a11.ext (fun q q0 q1 => ?_)⟩
    exact b4.2.2.2 _ (Or.inl (by omega))
theorem MoQ.cmp (F : Fix z) (S : SO s) (h1 : MoA z s 5 i j d g1 M1) (h2 : MoA z s 5 (j + 1) j2 d g2 M2) (hd : 0 ≤ d ∧ d ≤ 8) (hi : 0 ≤ i ∧ i ≤ j ∧ j < sM s ∧ j2 ≤ sM s) (hg : 0 < g1 ∧ g1 ≤ j - i) (hg2 : 0 < g2 ∧ g2 ≤ j2 - (j + 1)) (h24 : sK s i ≠ 24) (hs : StA s 5 j) (hc : (25 ≤ sK s j ∧ sK s j ≤ 28) ∨ sK s j = 36 ∨ sK s j = 37) (B1 : MB M1) (B2 : MB M2) : MoQ z s 3 i j2 d (g1 + g2 + 1) (fun A k => asV (sK s j) (M1 A k) (M2 A k)) := by
  intro U K p w k0 m hp hw ha
  have S1 := S.1
  have p0 := m.2.2.1
  obtain ⟨x1, x2, x3⟩ := cmO_rg hc
  obtain ⟨U3, K3, b1, b2, b3, b4, b5⟩ := (cmp_go F S h1 hd (by omega) (by omega) h24 hs m (by omega) hw ha).2 hc (by omega)
  obtain ⟨U4, W4, K4, p4, c1, c2, c3, c4, c5, c6, c7, c8, c9, c10, c11, c12⟩ := h2 U3 K3 (p + 1) (w + g1) k0 b2 (by omega) (by omega) (fun _ x => by
    have x2 := x.2
    rw [show p + 1 - 1 = p by omega, b3] at x2
    omega) (Or.inr (by rw [show p + 1 - 1 = p by omega, b3, x2]; decide))
  have t4 : W4 440 p = cmO (sK s j) := (c10.2.2.1 p (by omega)).trans b3
  have t4' : U4 440 p = cmO (sK s j) := (c7.2.2.1 p (by omega)).trans b3
  obtain ⟨e1, e2, e3, e4, e5⟩ := pop_ F S c8 (by omega) (by omega) (by omega) t4 (by omega) c9
  rw [if_neg (by rw [x2]; omega)] at e2
  rw [x2] at e1
  have fU4 : frQ s p w U U4 := b4.tr c7 (by omega) (by omega)
  have fW4 : frQ s p w U W4 := b4.tr c10 (by omega) (by omega)
  have m1 : ME (fun q => popM W4 438 (sX s + 73 + q)) w (w + g1) M1 := b5.ext (fun q q0 q1 => (e4.2.2.2 _ (Or.inl (by omega))).trans (c10.2.2.2 _ (Or.inl (by omega))))
  have m2 : ME (fun q => popM W4 438 (sX s + 73 + q)) (w + g1) (w + g1 + g2) M2 := c11.ext (fun q q0 q1 => e4.2.2.2 _ (Or.inl (by omega)))
  have m3 := BE_ask m1 m2 B1 B2 x3 e5 (by omega)
  refine ⟨U4, popM W4, K4, p4, p, b1.trans c1, c2, c3, c4, by omega, ⟨by omega, by rw [t4']; exact x1, fun k k0 k1 => c6 k (by omega) k1, fun k k0 k1 => absurd k1 (by omega)⟩, fU4, ?_, e3, fW4.tr e4 (by omega) (by omega), ?_, fun q q1 q2 => (c12 q q1 (by omega)).trans (e1 q q1 (by omega))⟩
  · rw [show w + (g1 + g2 + 1) = w + g1 + g2 + 1 by omega]; exact e2
  · rw [show w + (g1 + g2 + 1) = w + g1 + g2 + 1 by omega]; exact m3
theorem MnQ.cmp0 (F : Fix z) (S : SO s) (h1 : MoA z s 5 i j d g1 M1) (hd : 0 ≤ d ∧ d ≤ 8) (hi : 0 ≤ i ∧ i ≤ j ∧ j ≤ sM s) (hg : 0 < g1 ∧ g1 ≤ j - i) (h24 : sK s i ≠ 24) (hs : StA s 5 j) (hc : ¬ ((25 ≤ sK s j ∧ sK s j ≤ 28) ∨ sK s j = 36 ∨ sK s j = 37)) : MnQ z s 3 i j 1 d := fun U K p w k0 m hp hw ha => (cmp_go F S h1 hd hi (by omega) h24 hs m (by omega) hw ha).1 hc
theorem MnQ.cmp1 (h1 : MnA z s 5 i j f d) (h24 : sK s i ≠ 24) : MnQ z s 3 i j f d := fun U K p w k0 m hp hw ha => h1 U K p w k0 m (by omega) hw (fun x => absurd x h24) (Or.inr (by have := ha.2.2.r4; omega))
theorem MnQ.cmp2 (F : Fix z) (S : SO s) (h1 : MoA z s 5 i j d g1 M1) (h2 : MnA z s 5 (j + 1) j2 f d) (hd : 0 ≤ d ∧ d ≤ 8) (hi : 0 ≤ i ∧ i ≤ j ∧ j < sM s) (hg : 0 < g1 ∧ g1 ≤ j - i) (h24 : sK s i ≠ 24) (hs : StA s 5 j) (hc : (25 ≤ sK s j ∧ sK s j ≤ 28) ∨ sK s j = 36 ∨ sK s j = 37) : MnQ z s 3 i j2 f d := by
  intro U K p w k0 m hp hw ha
  have p0 := m.2.2.1
  obtain ⟨x1, x2, x3⟩ := cmO_rg hc
  obtain ⟨U3, K3, b1, b2, b3, b4, b5⟩ := (cmp_go F S h1 hd (by omega) (by omega) h24 hs m (by omega) hw ha).2 hc (by omega)
  obtain ⟨U4, K4, c1, c2, c3⟩ := h2 U3 K3 (p + 1) (w + g1) k0 b2 (by omega) (by omega) (fun _ x => by
    have x2 := x.2
    rw [show p + 1 - 1 = p by omega, b3] at x2
    omega) (Or.inr (by rw [show p + 1 - 1 = p by omega, b3, x2]; decide))
  exact ⟨U4, K4, b1.trans c1, c2, b4.tr c3 (by omega) (by omega)⟩
end
