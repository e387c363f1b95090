/-! THE READING: if, then, else, end -/
def MoC (z : Zz) (s : Sm) (i j e g : Int) (M : (Int → Int) → Int → Int) : Prop := ∀ U K p w, Md U K s i (p + 1) e w p → U 440 p = 41 → p + 1 ≤ 6 * e → (0 ≤ w ∧ w ≤ i) → 0 ≤ p → ∃ U' K', Lp (em U K z) = S7 U' K' z ∧ Ps U' K' s j p (e - 1) (w + g) ∧ U' 435 18 = 1 ∧ frQ s p w U U' ∧ ME (fun q => U' 438 (sX s + 73 + q)) w (w + g) M
def MnC (z : Zz) (s : Sm) (i j f e : Int) : Prop := ∀ U K p w, Md U K s i (p + 1) e w p → U 440 p = 41 → p + 1 ≤ 6 * e → (0 ≤ w ∧ w ≤ i) → 0 ≤ p → ∃ U' K', Lp (em U K z) = some (.int (iv f), em U' K' z) ∧ U' 435 8 = sP s j ∧ frQ s p w U U'
section
variable {U U' K : Vm} {z : Zz} {s : Sm} {l i j j1 j2 j3 e d g g1 g2 p w k0 f o : Int} {M M1 M2 C : (Int → Int) → Int → Int}
theorem Pl.re (P : Pl U (p + 1) p) (p0 : 0 ≤ p) (f : ∀ k, k < p → U' 440 k = U 440 k) (h : U' 440 p = o) (ho : 40 ≤ o ∧ o ≤ 43) : Pl U' (p + 1) p ∧ opn U' p = o := by
  obtain ⟨_, O, v⟩ := P
  refine ⟨⟨by omega, ⟨by omega, fun j j0 j1 => absurd j1 (by omega), Or.inr (by rw [h]; omega)⟩, fun j j0 j1 => ?_⟩, by unfold opn; rw [if_neg (by omega), h]⟩
  by_cases w : j < p
  · rw [f j w]; exact v j j0 (by omega)
  · rw [show j = p by omega, h]; exact Or.inr ho
theorem rk_4 {o : Int} (h : 40 ≤ o) : rk o = 0 := if_pos h
/-- behind a sum in what is open at p: the model stands before what may close it -/
theorem mid_go (F : Fix z) (h1 : MoA z s 5 i j e g M) (he : 0 ≤ e ∧ e ≤ 8) (hi : 0 ≤ i ∧ i ≤ j ∧ j ≤ sM s) (n : sM s ≤ 300) (hg : 0 < g ∧ g ≤ j - i) (hs : StA s 5 j) (m : Md U K s i (p + 1) e w p) (p0 : 0 ≤ p) (hp : p + 1 ≤ 6 * e + 3) (hw : 0 ≤ w ∧ w ≤ i) (ho : U 440 p = o) (oo : o = 40 ∨ o = 42 ∨ o = 43) : ∃ U' U'' K', Lp (em U K z) = Lp (em U' K' z) ∧ U' 435 18 = 1 ∧ Mt U' K' s j ∧ cA m_M_betweenOf [.ref 435] (em U' K' z) = some (.int (iv (-1)), em U' K' z) ∧ cA m_M_openNow [.ref 435] (em U' K' z) = some (.int (iv o), em U' K' z) ∧ cA m_M_settle [.ref 435, .int (iv 1)] (em U' K' z) = some (.null, em U'' K' z) ∧ Ps U'' K' s j (p + 1) e (w + g) ∧ U'' 435 18 = 1 ∧ frQ s (p + 1) w U U' ∧ frQ s (p + 1) w U U'' ∧ ME (fun q => U'' 438 (sX s + 73 + q)) w (w + g) M := by
  have v := m.2.2.2.2
  have opno : opn U p = o := by unfold opn; rw [if_neg (by omega), ho]
  obtain ⟨U', U'', K', p', a1, a2, a3, a4, a5, a6, a7, a8, a9, a10, a11, a12⟩ := h1 U K (p + 1) w p m (by omega) hw (fun _ x => by have := x.1; omega) (Or.inr (by rw [show p + 1 - 1 = p by omega, ho, rk_4 (by omega)]; decide))
  have q := m.2.2.2.1.mv (U' := U') (p' := p') a5.1 (fun k _ k1 => a7.2.2.1 k k1) (fun k k0 k1 => by have := a6 k k0 k1; omega) (by omega)
  have nar : ¬ (29 ≤ sK s j ∧ sK s j ≤ 32) := by
    have a := hs.1 (by decide)
    have b := hs.2 (by decide)
    omega
  have bt := y_between_no (z := z) F a3.2 nar a4 (by omega) q.1 (by rw [q.2, opno]; omega)
  have on := y_openNow (K := K') (z := z) F a4 (by omega) q.1
  rw [q.2, opno] at on
  have st := stop_ (l := 1) F a8 (by omega) (fun k k0 k1 => by rw [a10.2.2.1 k k1]; exact v k k0 k1) (Or.inr (by rw [show p + 1 - 1 = p by omega, a10.2.2.1 p (by omega), ho, rk_4 (by omega)]; decide)) (by omega)
  exact ⟨U', U'', K', a1, a2, a3, bt, on, (a12 1 (by omega) (by omega)).trans st, a8, a9, a7, a10, a11⟩
/-- then, else -/
theorem mid_part (F : Fix z) (S : SO s) {pt : Int} (hP : Pl U (p + 1) p) (p0 : 0 ≤ p ∧ p < 159) (fr : frQ s (p + 1) w U U') (ho : U 440 p = o) (oo : 40 ≤ o ∧ o ≤ 43) {V1 : Vm} (h18 : V1 435 18 = 1) (hb : cA m_M_betweenOf [.ref 435] (em V1 K z) = some (.int (iv (-1)), em V1 K z)) (hon : cA m_M_openNow [.ref 435] (em V1 K z) = some (.int (iv o), em V1 K z)) (hpt : cA m_M_partOf [.ref 435, .int (iv o)] (em V1 K z) = some (.int (iv pt), em V1 K z)) (pr : 40 ≤ pt ∧ pt ≤ 43) (hs : cA m_M_settle [.ref 435, .int (iv 1)] (em V1 K z) = some (.null, em U' K z)) {w' : Int} (hw : w ≤ w') (P : Ps U' K s j (p + 1) e w') (hj : 0 ≤ j ∧ j < sM s) (m : ME (fun q => U' 438 (sX s + 73 + q)) w w' M ∨ BE (fun q => U' 438 (sX s + 73 + q)) w w' M) : ∃ U3 K3, Lp (em V1 K z) = Lp (em U3 K3 z) ∧ Md U3 K3 s (j + 1) (p + 1) e w' p ∧ U3 440 p = pt ∧ frQ s p w U U3 ∧ ((ME (fun q => U' 438 (sX s + 73 + q)) w w' M → ME (fun q => U3 438 (sX s + 73 + q)) w w' M) ∧ (BE (fun q => U' 438 (sX s + 73 + q)) w w' M → BE (fun q => U3 438 (sX s + 73 + q)) w w' M)) := by
  obtain ⟨U3, K3, b1, b2, b3, b4, b5⟩ := l_part F S h18 hb hon hpt pr hs P (by rw [fr.2.2.1 p (by omega), ho]; exact oo) hj p0
  have f3 : frQ s p w U U3 := (show frQ s p w U U' from ⟨fr.1, fr.2.1, fun k hk => fr.2.2.1 k (by omega), fr.2.2.2⟩).tr b4 (Int.le_refl _) hw
  have pl := hP.re (U' := U3) p0.1 f3.2.2.1 b5 pr
  exact ⟨U3, K3, b1, ⟨b2, b3, pl.1⟩, b5, f3, fun x => x.ext (fun q q0 q1 => b4.2.2.2 _ (Or.inl (by omega))), fun x => x.ext (fun q q0 q1 => b4.2.2.2 _ (Or.inl (by omega)))⟩
/-- up to then -/
theorem then_go (F : Fix z) (S : SO s) (h1 : MoQ z s 1 i j e g C) (he : 0 ≤ e ∧ e ≤ 8) (hi : 0 ≤ i ∧ i ≤ j ∧ j ≤ sM s) (hg : 0 < g ∧ g ≤ j - i) (hs : StQ s 1 j) (m : Md U K s i (p + 1) e w p) (h41 : U 440 p = 41) (p0 : 0 ≤ p) (hp : p + 1 ≤ 6 * e) (hw : 0 ≤ w ∧ w ≤ i) : (sK s j ≠ 19 → ∃ U' K', Lp (em U K z) = some (.int (iv 1), em U' K' z) ∧ U' 435 8 = sP s j ∧ frQ s p w U U') ∧ (sK s j = 19 → ∃ U3 K3, Lp (em U K z) = Lp (em U3 K3 z) ∧ Md U3 K3 s (j + 1) (p + 1) e (w + g) p ∧ U3 440 p = 42 ∧ frQ s p w U U3 ∧ BE (fun q => U3 438 (sX s + 73 + q)) w (w + g) C) := by
  have S1 := S.1
  have v := m.2.2.2.2
  have opno : opn U p = 41 := by unfold opn; rw [if_neg (by omega), h41]
  obtain ⟨U', U'', K', p', kc, a1, a2, a3, a4, a5, a6, a7, a8, a9, a10, a11, a12⟩ := h1 U K (p + 1) w p m (by omega) hw ⟨by omega, opno, by rw [show p + 1 - 1 = p by omega, h41]; exact ⟨Or.inl rfl, Or.inr (by decide)⟩⟩
  obtain ⟨⟨q1, q2⟩, q3, q4⟩ := q_at m.2.2 a7.2.2.1 a5.1 a6
  have nar : ¬ (29 ≤ sK s j ∧ sK s j ≤ 32) := by
    have a := hs.1.1 (by decide)
    have b := hs.1.2 (by decide)
    omega
  have n23 := hs.2.1 (by decide)
  have n22 := hs.2.2 (by decide)
  have bt := y_between_and (z := z) F a3.2 nar a4 (by omega) q1 (by rw [q2]; exact opno) q3 q4
  rw [if_neg n23, if_neg n22] at bt
  have on := y_openNow (K := K') (z := z) F a4 (by omega) q1
  rw [q2, opno] at on
  have pt := y_part41 (z := z) F a3.2 a4 (by omega) q3
  constructor
  · intro n19
    rw [if_neg (fun x => n19 x.1)] at pt
    exact ⟨U', K', a1.trans (l_none1 F a2 bt on (by decide) pt), a3.2.2.1, ⟨a7.1, a7.2.1, fun k hk => a7.2.2.1 k (by omega), a7.2.2.2⟩⟩
  · intro k19
    have jm : j < sM s := by
      by_cases x : j = sM s
      · have := (S.2.2.2 j (by omega) hi.2.2).2.2.mpr x
        omega
      · omega
    rw [if_pos ⟨k19, q4⟩] at pt
    have st := stop_ (l := 1) F a8 (by omega) (fun k k0 k1 => by rw [a10.2.2.1 k k1]; exact v k k0 k1) (Or.inr (by rw [show p + 1 - 1 = p by omega, a10.2.2.1 p (by omega), h41]; decide)) (by omega)
    obtain ⟨U3, K3, b1, b2, b3, b4, b5⟩ := mid_part (M := C) F S m.2.2 (by omega) a10 h41 (by omega) a2 bt on pt (by omega) ((a12 1 (by omega) (by omega)).trans st) (by omega) a8 (by omega) (Or.inr a11)
    exact ⟨U3, K3, a1.trans b1, b2, b3, b4, b5.2 a11⟩
/-- up to else -/
theorem else_go (F : Fix z) (S : SO s) (h1 : MoA z s 5 i j e g M) (he : 0 ≤ e ∧ e ≤ 8) (hi : 0 ≤ i ∧ i ≤ j ∧ j ≤ sM s) (hg : 0 < g ∧ g ≤ j - i) (hs : StA s 5 j) (m : Md U K s i (p + 1) e w p) (h42 : U 440 p = 42) (p0 : 0 ≤ p) (hp : p + 1 ≤ 6 * e) (hw : 0 ≤ w ∧ w ≤ i) : (sK s j ≠ 20 → ∃ U' K', Lp (em U K z) = some (.int (iv 1), em U' K' z) ∧ U' 435 8 = sP s j ∧ frQ s p w U U') ∧ (sK s j = 20 → ∃ U3 K3, Lp (em U K z) = Lp (em U3 K3 z) ∧ Md U3 K3 s (j + 1) (p + 1) e (w + g) p ∧ U3 440 p = 43 ∧ frQ s p w U U3 ∧ ME (fun q => U3 438 (sX s + 73 + q)) w (w + g) M) := by
  have S1 := S.1
  obtain ⟨U', U'', K', a1, a2, a3, bt, on, se, a8, a9, a7, a10, a11⟩ := mid_go F h1 he hi (by omega) hg hs m p0 (by omega) hw h42 (by omega)
  have pt := y_part42 (z := z) F a3.2
  constructor
  · intro n
    rw [if_neg n] at pt
    exact ⟨U', K', a1.trans (l_none1 F a2 bt on (by decide) pt), a3.2.2.1, ⟨a7.1, a7.2.1, fun k hk => a7.2.2.1 k (by omega), a7.2.2.2⟩⟩
  · intro k
    have jm : j < sM s := by
      by_cases x : j = sM s
      · have := (S.2.2.2 j (by omega) hi.2.2).2.2.mpr x
        omega
      · omega
    rw [if_pos k] at pt
    obtain ⟨U3, K3, b1, b2, b3, b4, b5⟩ := mid_part (M := M) F S m.2.2 (by omega) a10 h42 (by omega) a2 bt on pt (by omega) se (by omega) a8 (by omega) (Or.inl a11)
    exact ⟨U3, K3, a1.trans b1, b2, b3, b4, b5.1 a11⟩
/-- up to end -/
theorem end_go (F : Fix z) (S : SO s) (h1 : MoA z s 5 i j e g M) (he : 1 ≤ e ∧ e ≤ 8) (hi : 0 ≤ i ∧ i ≤ j ∧ j ≤ sM s) (hg : 0 < g ∧ g ≤ j - i) (hs : StA s 5 j) (m : Md U K s i (p + 1) e w p) (h43 : U 440 p = 43) (p0 : 0 ≤ p) (hp : p + 1 ≤ 6 * e) (hw : 0 ≤ w ∧ w ≤ i) : (sK s j ≠ 21 → ∃ U' K', Lp (em U K z) = some (.int (iv 1), em U' K' z) ∧ U' 435 8 = sP s j ∧ frQ s p w U U') ∧ (sK s j = 21 → ∃ U3 K3, Lp (em U K z) = S7 U3 K3 z ∧ Ps U3 K3 s (j + 1) p (e - 1) (w + g + 1) ∧ U3 435 18 = 1 ∧ frQ s p w U U3 ∧ ME (fun q => U3 438 (sX s + 73 + q)) w (w + g) M ∧ U3 438 (sX s + 73 + 2 * (w + g)) = 3) := by
  have S1 := S.1
  obtain ⟨U', U'', K', a1, a2, a3, bt, on, se, a8, a9, a7, a10, a11⟩ := mid_go F h1 (by omega) hi (by omega) hg hs m p0 (by omega) hw h43 (by omega)
  have pt := y_part43 (z := z) F a3.2
  constructor
  · intro n
    rw [if_neg n] at pt
    exact ⟨U', K', a1.trans (l_none1 F a2 bt on (by decide) pt), a3.2.2.1, ⟨a7.1, a7.2.1, fun k hk => a7.2.2.1 k (by omega), a7.2.2.2⟩⟩
  · intro k
    have jm : j < sM s := by
      by_cases x : j = sM s
      · have := (S.2.2.2 j (by omega) hi.2.2).2.2.mpr x
        omega
      · omega
    rw [if_pos k] at pt
    obtain ⟨U3, K3, b1, b2, b3, b4, b5⟩ := l_end (d := e - 1) (p := p) (i := j) (w := w + g) F S a2 bt on pt se a9 (by rw [show e - 1 + 1 = e by omega]; exact a8) (by omega) (by omega)
    have f3 : frQ s p w U U3 := (show frQ s p w U U'' from ⟨a10.1, a10.2.1, fun k hk => a10.2.2.1 k (by omega), a10.2.2.2⟩).tr b4 (Int.le_refl _) (by omega)
    exact ⟨U3, K3, a1.trans b1, b2, b3, f3, a11.ext (fun q q0 q1 => b4.2.2.2 _ (Or.inl (by omega))), b5⟩
theorem frQ.lo {p' : Int} (fr : frQ s p' w U U') (h : p ≤ p') : frQ s p w U U' := ⟨fr.1, fr.2.1, fun k hk => fr.2.2.1 k (by omega), fr.2.2.2⟩
theorem MoC.all (F : Fix z) (S : SO s) (hC : MoQ z s 1 i j1 e g C) (h1 : MoA z s 5 (j1 + 1) j2 e g1 M1) (h2 : MoA z s 5 (j2 + 1) j3 e g2 M2) (he : 1 ≤ e ∧ e ≤ 8) (hi : 0 ≤ i ∧ i < j1 ∧ j1 + 1 < j2 ∧ j2 + 1 < j3 ∧ j3 ≤ sM s) (hg : 0 < g ∧ g ≤ j1 - i) (hg1 : 0 < g1 ∧ g1 ≤ j2 - (j1 + 1)) (hg2 : 0 < g2 ∧ g2 ≤ j3 - (j2 + 1)) (s1 : StQ s 1 j1) (s2 : StA s 5 j2) (s3 : StA s 5 j3) (k1 : sK s j1 = 19) (k2 : sK s j2 = 20) (k3 : sK s j3 = 21) (b : M01 C) : MoC z s i (j3 + 1) e (g + g1 + g2 + 1) (fun A k => if C A k = 0 then M2 A k else M1 A k) := by
  intro U K p w m h41 hp hw p0
  obtain ⟨U1, K1, a1, a2, a3, a4, a5⟩ := (then_go F S hC (by omega) (by omega) hg s1 m h41 p0 hp hw).2 k1
  obtain ⟨U2, K2, b1, b2, b3, b4, b5⟩ := (else_go F S h1 (by omega) (by omega) hg1 s2 a2 a3 p0 hp (by omega)).2 k2
  obtain ⟨U3, K3, c1, c2, c3, c4, c5, c6⟩ := (end_go F S h2 (by omega) (by omega) hg2 s3 b2 b3 p0 hp (by omega)).2 k3
  have m0 : BE (fun q => U3 438 (sX s + 73 + q)) w (w + g) C := a5.ext (fun q q0 q1 => (c4.2.2.2 _ (Or.inl (by omega))).trans (b4.2.2.2 _ (Or.inl (by omega))))
  have m1 : ME (fun q => U3 438 (sX s + 73 + q)) (w + g) (w + g + g1) M1 := b5.ext (fun q q0 q1 => c4.2.2.2 _ (Or.inl (by omega)))
  have ms := ME_sel m0 b m1 c5 c6 (by omega)
  refine ⟨U3, K3, a1.trans (b1.trans c1), ?_, c3, (a4.tr b4 (Int.le_refl _) (by omega)).tr c4 (Int.le_refl _) (by omega), ?_⟩
  · rw [show w + (g + g1 + g2 + 1) = w + g + g1 + g2 + 1 by omega]; exact c2
  · rw [show w + (g + g1 + g2 + 1) = w + g + g1 + g2 + 1 by omega]; exact ms
theorem MnC.ca (h : MnQ z s 1 i j f e) : MnC z s i j f e := by
  intro U K p w m h41 hp hw p0
  obtain ⟨U', K', a1, a2, a3⟩ := h U K (p + 1) w p m (by omega) hw ⟨by omega, by unfold opn; rw [if_neg (by omega), h41], by rw [show p + 1 - 1 = p by omega, h41]; exact ⟨Or.inl rfl, Or.inr (by decide)⟩⟩
  exact ⟨U', K', a1, a2, a3.lo (by omega)⟩
theorem MnC.cb (F : Fix z) (S : SO s) (hC : MoQ z s 1 i j1 e g C) (he : 1 ≤ e ∧ e ≤ 8) (hi : 0 ≤ i ∧ i ≤ j1 ∧ j1 ≤ sM s) (hg : 0 < g ∧ g ≤ j1 - i) (s1 : StQ s 1 j1) (k1 : sK s j1 ≠ 19) : MnC z s i j1 1 e := fun U K p w m h41 hp hw p0 => (then_go F S hC (by omega) hi hg s1 m h41 p0 hp hw).1 k1
theorem mn_A (h : MnA z s 5 i j f e) (m : Md U K s i (p + 1) e w p) (ho : U 440 p = o) (oo : o = 42 ∨ o = 43) (p0 : 0 ≤ p) (hp : p + 1 ≤ 6 * e) (hw : 0 ≤ w ∧ w ≤ i) : ∃ U' K', Lp (em U K z) = some (.int (iv f), em U' K' z) ∧ U' 435 8 = sP s j ∧ frQ s p w U U' := by
  have opno : opn U p = o := by unfold opn; rw [if_neg (by omega), ho]
  obtain ⟨U', K', a1, a2, a3⟩ := h U K (p + 1) w p m (by omega) hw (fun _ x => by have := x.1; omega) (Or.inr (by rw [show p + 1 - 1 = p by omega, ho, rk_4 (by omega)]; decide))
  exact ⟨U', K', a1, a2, a3.lo (by omega)⟩
theorem MnC.cc (F : Fix z) (S : SO s) (hC : MoQ z s 1 i j1 e g C) (he : 1 ≤ e ∧ e ≤ 8) (hi : 0 ≤ i ∧ i ≤ j1 ∧ j1 ≤ sM s) (hg : 0 < g ∧ g ≤ j1 - i) (s1 : StQ s 1 j1) (k1 : sK s j1 = 19) (h : MnA z s 5 (j1 + 1) j2 f e) : MnC z s i j2 f e := by
  intro U K p w m h41 hp hw p0
  obtain ⟨U1, K1, a1, a2, a3, a4, a5⟩ := (then_go F S hC (by omega) (by omega) hg s1 m h41 p0 hp hw).2 k1
  obtain ⟨U2, K2, b1, b2, b3⟩ := mn_A h a2 a3 (by omega) p0 hp (by omega)
  exact ⟨U2, K2, a1.trans b1, b2, a4.tr b3 (Int.le_refl _) (by omega)⟩
theorem MnC.cd (F : Fix z) (S : SO s) (hC : MoQ z s 1 i j1 e g C) (h1 : MoA z s 5 (j1 + 1) j2 e g1 M1) (he : 1 ≤ e ∧ e ≤ 8) (hi : 0 ≤ i ∧ i < j1 ∧ j1 + 1 < j2 ∧ j2 ≤ sM s) (hg : 0 < g ∧ g ≤ j1 - i) (hg1 : 0 < g1 ∧ g1 ≤ j2 - (j1 + 1)) (s1 : StQ s 1 j1) (s2 : StA s 5 j2) (k1 : sK s j1 = 19) (k2 : sK s j2 ≠ 20) : MnC z s i j2 1 e := by
  intro U K p w m h41 hp hw p0
  obtain ⟨U1, K1, a1, a2, a3, a4, a5⟩ := (then_go F S hC (by omega) (by omega) hg s1 m h41 p0 hp hw).2 k1
  obtain ⟨U2, K2, b1, b2, b3⟩ := (else_go F S h1 (by omega) (by omega) hg1 s2 a2 a3 p0 hp (by omega)).1 k2
  exact ⟨U2, K2, a1.trans b1, b2, a4.tr b3 (Int.le_refl _) (by omega)⟩
theorem MnC.ce (F : Fix z) (S : SO s) (hC : MoQ z s 1 i j1 e g C) (h1 : MoA z s 5 (j1 + 1) j2 e g1 M1) (he : 1 ≤ e ∧ e ≤ 8) (hi : 0 ≤ i ∧ i < j1 ∧ j1 + 1 < j2 ∧ j2 ≤ sM s) (hg : 0 < g ∧ g ≤ j1 - i) (hg1 : 0 < g1 ∧ g1 ≤ j2 - (j1 + 1)) (s1 : StQ s 1 j1) (s2 : StA s 5 j2) (k1 : sK s j1 = 19) (k2 : sK s j2 = 20) (h : MnA z s 5 (j2 + 1) j3 f e) : MnC z s i j3 f e := by
  intro U K p w m h41 hp hw p0
  obtain ⟨U1, K1, a1, a2, a3, a4, a5⟩ := (then_go F S hC (by omega) (by omega) hg s1 m h41 p0 hp hw).2 k1
  obtain ⟨U2, K2, b1, b2, b3, b4, b5⟩ := (else_go F S h1 (by omega) (by omega) hg1 s2 a2 a3 p0 hp (by omega)).2 k2
  obtain ⟨U3, K3, c1, c2, c3⟩ := mn_A h b2 b3 (by omega) p0 hp (by omega)
  exact ⟨U3, K3, a1.trans (b1.trans c1), c2, (a4.tr b4 (Int.le_refl _) (by omega)).tr c3 (Int.le_refl _) (by omega)⟩
theorem MnC.cf (F : Fix z) (S : SO s) (hC : MoQ z s 1 i j1 e g C) (h1 : MoA z s 5 (j1 + 1) j2 e g1 M1) (h2 : MoA z s 5 (j2 + 1) j3 e g2 M2) (he : 1 ≤ e ∧ e ≤ 8) (hi : 0 ≤ i ∧ i < j1 ∧ j1 + 1 < j2 ∧ j2 + 1 < j3 ∧ j3 ≤ sM s) (hg : 0 < g ∧ g ≤ j1 - i) (hg1 : 0 < g1 ∧ g1 ≤ j2 - (j1 + 1)) (hg2 : 0 < g2 ∧ g2 ≤ j3 - (j2 + 1)) (s1 : StQ s 1 j1) (s2 : StA s 5 j2) (s3 : StA s 5 j3) (k1 : sK s j1 = 19) (k2 : sK s j2 = 20) (k3 : sK s j3 ≠ 21) : MnC z s i j3 1 e := by
  intro U K p w m h41 hp hw p0
  obtain ⟨U1, K1, a1, a2, a3, a4, a5⟩ := (then_go F S hC (by omega) (by omega) hg s1 m h41 p0 hp hw).2 k1
  obtain ⟨U2, K2, b1, b2, b3, b4, b5⟩ := (else_go F S h1 (by omega) (by omega) hg1 s2 a2 a3 p0 hp (by omega)).2 k2
  obtain ⟨U3, K3, c1, c2, c3⟩ := (end_go F S h2 (by omega) (by omega) hg2 s3 b2 b3 p0 hp (by omega)).1 k3
  exact ⟨U3, K3, a1.trans (b1.trans c1), c2, (a4.tr b4 (Int.le_refl _) (by omega)).tr c3 (Int.le_refl _) (by omega)⟩
end
