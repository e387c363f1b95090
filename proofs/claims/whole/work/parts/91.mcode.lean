/-! what a law's code means: pieces of the model's code -/
/-- the class's number of the model's name -/
def cnm (m : Int) : Int := if m = 3 then 3 else if m < 3 then m + 10 else m + 9
/-- what all pieces want of the model's memory -/
def Mx (U : Vm) (A : Int → Int) (k x b e E : Int) : Prop := Ro U A ∧ (∀ m, 0 ≤ m → m < 7 → U 441 m = nmV A k (cnm m)) ∧ (0 ≤ x ∧ x ≤ 2700) ∧ U 438 (x + 2) = E ∧ (e ≤ E ∧ E ≤ 305) ∧ (0 ≤ b ∧ b + 2 * E ≤ 2724)
def ME (mc : Int → Int) (s e : Int) (M : (Int → Int) → Int → Int) : Prop := (0 ≤ s ∧ s ≤ e) ∧ ∀ (z : Zz) (U K V : Vm) (t : Nat) (A : Int → Int) (k x b E n r : Int), Fix z → Kn V t A → (0 ≤ k ∧ k < A 0) → Mx U A k x b e E → (∀ j, 2 * s ≤ j → j < 2 * e → U 438 (b + j) = mc j) → (0 ≤ n ∧ n + (e - s) ≤ 330) → (0 ≤ r ∧ r + (e - s) ≤ 330) → ∃ U' K', h38 x b n r s (em U K z) = h38 x b (n + 1) r e (em U' K' z) ∧ (∀ a, a ≠ 443 → U' a = U a) ∧ K' 442 n = M A k ∧ (∀ j, j < n → K' 442 j = K 442 j) ∧ ∀ j, j < r → U' 443 j = U 443 j
def BE (mc : Int → Int) (s e : Int) (M : (Int → Int) → Int → Int) : Prop := (0 ≤ s ∧ s ≤ e) ∧ ∀ (z : Zz) (U K V : Vm) (t : Nat) (A : Int → Int) (k x b E n r : Int), Fix z → Kn V t A → (0 ≤ k ∧ k < A 0) → Mx U A k x b e E → (∀ j, 2 * s ≤ j → j < 2 * e → U 438 (b + j) = mc j) → (0 ≤ n ∧ n + (e - s) ≤ 330) → (0 ≤ r ∧ r + (e - s) ≤ 330) → ∃ U' K', h38 x b n r s (em U K z) = h38 x b n (r + 1) e (em U' K' z) ∧ (∀ a, a ≠ 443 → U' a = U a) ∧ U' 443 r = M A k ∧ (∀ j, j < n → K' 442 j = K 442 j) ∧ ∀ j, j < r → U' 443 j = U 443 j
section
variable {mc mc' : Int → Int} {s s1 s2 s3 : Int} {M M1 M2 C : (Int → Int) → Int → Int} {U U' : Vm} {A : Int → Int} {k x b e e' E : Int}
theorem Mx.fr (h : Mx U A k x b e E) (f : ∀ a, a ≠ 443 → U' a = U a) (he : e' ≤ e) : Mx U' A k x b e' E := by
  obtain ⟨h1, h2, h3, h4, h5, h6⟩ := h
  unfold Mx Ro
  rw [f 436 (by decide), f 441 (by decide), f 438 (by decide)]
  exact ⟨h1, h2, h3, h4, by omega, h6⟩
theorem ME.ext (h : ME mc s e M) (q : ∀ j, 2 * s ≤ j → j < 2 * e → mc' j = mc j) : ME mc' s e M :=
  ⟨h.1, fun z U K V t A k x b E n r F hK hk hM hc => h.2 z U K V t A k x b E n r F hK hk hM (fun j j0 j1 => (hc j j0 j1).trans (q j j0 j1))⟩
theorem BE.ext (h : BE mc s e M) (q : ∀ j, 2 * s ≤ j → j < 2 * e → mc' j = mc j) : BE mc' s e M :=
  ⟨h.1, fun z U K V t A k x b E n r F hK hk hM hc => h.2 z U K V t A k x b E n r F hK hk hM (fun j j0 j1 => (hc j j0 j1).trans (q j j0 j1))⟩
theorem ME_num (hs : 0 ≤ s) {v : Int} (hv : 0 ≤ v ∧ v ≤ 9999) (c0 : mc (2 * s) = 0) (c1 : mc (2 * s + 1) = v) : ME mc s (s + 1) (fun _ _ => v) := by
  refine ⟨by omega, fun z U K V t A k x b E n r F hK hk hM hc hn hr => ?_⟩
  obtain ⟨h1, h2, h3, h4, h5, h6⟩ := hM
  have a0 := (hc (2 * s) (by omega) (by omega)).trans c0
  have a1 := (hc (2 * s + 1) (by omega) (by omega)).trans c1
  rw [← Int.add_assoc] at a1
  exact ⟨U, _, m_num F h3 h4 (by omega) h6 a0 a1 hv (by omega), fun _ _ => rfl, by simp (disch := first | decide | omega | (simp (disch := first | decide | omega) only [sv_s, sv_o, ur_s, ur_e, ur_o]; omega)) only [↓reduceIte, iv_add, iv_sub, iv_mul, iv_neg, iv_ltT, iv_ltF, iv_leT, iv_leF, iv_eqT, iv_eqF, iv_div, iv_mod, ↓bnI_s, ↓bnV_s, ↓bnJ_s, ↓bnR_s, rt_e, rt_0, rt_bz, sv_s, sv_o, ur_s, ur_e, ur_o, bz_T, bz_F, nat_eqF, Nat.reduceAdd], fun j hj => by simp (disch := first | decide | omega | (simp (disch := first | decide | omega) only [sv_s, sv_o, ur_s, ur_e, ur_o]; omega)) only [↓reduceIte, iv_add, iv_sub, iv_mul, iv_neg, iv_ltT, iv_ltF, iv_leT, iv_leF, iv_eqT, iv_eqF, iv_div, iv_mod, ↓bnI_s, ↓bnV_s, ↓bnJ_s, ↓bnR_s, rt_e, rt_0, rt_bz, sv_s, sv_o, ur_s, ur_e, ur_o, bz_T, bz_F, nat_eqF, Nat.reduceAdd], fun _ _ => rfl⟩
theorem ME_name (hs : 0 ≤ s) {m : Int} (hm : 0 ≤ m ∧ m < 7) (c0 : mc (2 * s) = 1) (c1 : mc (2 * s + 1) = m) : ME mc s (s + 1) (fun A k => nmV A k (cnm m)) := by
  refine ⟨by omega, fun z U K V t A k x b E n r F hK hk hM hc hn hr => ?_⟩
  obtain ⟨h1, h2, h3, h4, h5, h6⟩ := hM
  have a0 := (hc (2 * s) (by omega) (by omega)).trans c0
  have a1 := (hc (2 * s + 1) (by omega) (by omega)).trans c1
  rw [← Int.add_assoc] at a1
  exact ⟨U, _, m_name F h3 h4 (by omega) h6 a0 a1 hm (h2 m hm.1 hm.2) (nmV_b hK hk) (by omega), fun _ _ => rfl, by simp (disch := first | decide | omega | (simp (disch := first | decide | omega) only [sv_s, sv_o, ur_s, ur_e, ur_o]; omega)) only [↓reduceIte, iv_add, iv_sub, iv_mul, iv_neg, iv_ltT, iv_ltF, iv_leT, iv_leF, iv_eqT, iv_eqF, iv_div, iv_mod, ↓bnI_s, ↓bnV_s, ↓bnJ_s, ↓bnR_s, rt_e, rt_0, rt_bz, sv_s, sv_o, ur_s, ur_e, ur_o, bz_T, bz_F, nat_eqF, Nat.reduceAdd], fun j hj => by simp (disch := first | decide | omega | (simp (disch := first | decide | omega) only [sv_s, sv_o, ur_s, ur_e, ur_o]; omega)) only [↓reduceIte, iv_add, iv_sub, iv_mul, iv_neg, iv_ltT, iv_ltF, iv_leT, iv_leF, iv_eqT, iv_eqF, iv_div, iv_mod, ↓bnI_s, ↓bnV_s, ↓bnJ_s, ↓bnR_s, rt_e, rt_0, rt_bz, sv_s, sv_o, ur_s, ur_e, ur_o, bz_T, bz_F, nat_eqF, Nat.reduceAdd], fun _ _ => rfl⟩
theorem ME_one (h : ME mc s s1 M) (bd : MB M) {c o : Int} (hc : (c = 16 ∧ o = 2) ∨ (c = 17 ∧ o = 4) ∨ (c = 41 ∧ o = 5)) (c0 : mc (2 * s1) = o) : ME mc s (s1 + 1) (fun A k => onV A c (M A k)) := by
  have h0 := h.1
  refine ⟨by omega, fun z U K V t A k x b E n r F hK hk hM hcl hn hr => ?_⟩
  obtain ⟨U1, K1, a1, a2, a3, a4, a5⟩ := h.2 z U K V t A k x b E n r F hK hk (hM.fr (fun _ _ => rfl) (by omega)) (fun j j0 j1 => hcl j j0 (by omega)) (by omega) (by omega)
  obtain ⟨h1, h2, h3, h4, h5, h6⟩ := hM.fr a2 (Int.le_refl _)
  have w : U1 438 (b + 2 * s1) = o := by rw [a2 438 (by decide)]; exact (hcl _ (by omega) (by omega)).trans c0
  have hw := y_M_ofOne (K := K1) F hK h1 (bd V t A k hK hk) hc
  exact ⟨U1, _, a1.trans (m_one F h3 h4 (by omega) h6 w (by omega) rfl (by omega) a3 hw), a2, by simp (disch := first | decide | omega | (simp (disch := first | decide | omega) only [sv_s, sv_o, ur_s, ur_e, ur_o]; omega)) only [↓reduceIte, iv_add, iv_sub, iv_mul, iv_neg, iv_ltT, iv_ltF, iv_leT, iv_leF, iv_eqT, iv_eqF, iv_div, iv_mod, ↓bnI_s, ↓bnV_s, ↓bnJ_s, ↓bnR_s, rt_e, rt_0, rt_bz, sv_s, sv_o, ur_s, ur_e, ur_o, bz_T, bz_F, nat_eqF, Nat.reduceAdd], fun j hj => by simp (disch := first | decide | omega | (simp (disch := first | decide | omega) only [sv_s, sv_o, ur_s, ur_e, ur_o]; omega)) only [↓reduceIte, iv_add, iv_sub, iv_mul, iv_neg, iv_ltT, iv_ltF, iv_leT, iv_leF, iv_eqT, iv_eqF, iv_div, iv_mod, ↓bnI_s, ↓bnV_s, ↓bnJ_s, ↓bnR_s, rt_e, rt_0, rt_bz, sv_s, sv_o, ur_s, ur_e, ur_o, bz_T, bz_F, nat_eqF, Nat.reduceAdd, a4 j hj], a5⟩
theorem ME_two (h1 : ME mc s s1 M1) (h2 : ME mc s1 s2 M2) (b1 : MB M1) (b2 : MB M2) {c : Int} (hc : 29 ≤ c ∧ c ≤ 32) (c0 : mc (2 * s2) = c - 23) (h12 : s < s1 ∧ s1 < s2) : ME mc s (s2 + 1) (fun A k => twV c (M1 A k) (M2 A k)) := by
  have h10 := h1.1
  refine ⟨by omega, fun z U K V t A k x b E n r F hK hk hM hcl hn hr => ?_⟩
  obtain ⟨U1, K1, a1, a2, a3, a4, a5⟩ := h1.2 z U K V t A k x b E n r F hK hk (hM.fr (fun _ _ => rfl) (by omega)) (fun j j0 j1 => hcl j j0 (by omega)) (by omega) (by omega)
  obtain ⟨U2, K2, d1, d2, d3, d4, d5⟩ := h2.2 z U1 K1 V t A k x b E (n + 1) r F hK hk (hM.fr a2 (by omega)) (fun j j0 j1 => by rw [a2 438 (by decide)]; exact hcl j (by omega) (by omega)) (by omega) (by omega)
  have f2 : ∀ a, a ≠ 443 → U2 a = U a := fun a ha => (d2 a ha).trans (a2 a ha)
  obtain ⟨g1, g2, g3, g4, g5, g6⟩ := hM.fr f2 (Int.le_refl _)
  have w : U2 438 (b + 2 * s2) = c - 23 := by rw [f2 438 (by decide)]; exact (hcl _ (by omega) (by omega)).trans c0
  have kn : K2 442 n = M1 A k := (d4 n (by omega)).trans a3
  exact ⟨U2, _, a1.trans (d1.trans (m_two F g3 g4 (by omega) g6 w (by omega) rfl (by omega) kn d3 (y_M_two (b1 V t A k hK hk) (b2 V t A k hK hk) hc))), f2, by simp (disch := first | decide | omega | (simp (disch := first | decide | omega) only [sv_s, sv_o, ur_s, ur_e, ur_o]; omega)) only [↓reduceIte, iv_add, iv_sub, iv_mul, iv_neg, iv_ltT, iv_ltF, iv_leT, iv_leF, iv_eqT, iv_eqF, iv_div, iv_mod, ↓bnI_s, ↓bnV_s, ↓bnJ_s, ↓bnR_s, rt_e, rt_0, rt_bz, sv_s, sv_o, ur_s, ur_e, ur_o, bz_T, bz_F, nat_eqF, Nat.reduceAdd], fun j hj => by simp (disch := first | decide | omega | (simp (disch := first | decide | omega) only [sv_s, sv_o, ur_s, ur_e, ur_o]; omega)) only [↓reduceIte, iv_add, iv_sub, iv_mul, iv_neg, iv_ltT, iv_ltF, iv_leT, iv_leF, iv_eqT, iv_eqF, iv_div, iv_mod, ↓bnI_s, ↓bnV_s, ↓bnJ_s, ↓bnR_s, rt_e, rt_0, rt_bz, sv_s, sv_o, ur_s, ur_e, ur_o, bz_T, bz_F, nat_eqF, Nat.reduceAdd, d4 j (by omega), a4 j hj], fun j hj => (d5 j hj).trans (a5 j hj)⟩
theorem BE_ask (h1 : ME mc s s1 M1) (h2 : ME mc s1 s2 M2) (b1 : MB M1) (b2 : MB M2) {c o : Int} (hc : (c = 25 ∧ o = 10) ∨ (c = 36 ∧ o = 11) ∨ (c = 26 ∧ o = 12) ∨ (c = 37 ∧ o = 13) ∨ (c = 27 ∧ o = 14) ∨ (c = 28 ∧ o = 15)) (c0 : mc (2 * s2) = o) (h12 : s < s1 ∧ s1 < s2) : BE mc s (s2 + 1) (fun A k => asV c (M1 A k) (M2 A k)) := by
  have h10 := h1.1
  refine ⟨by omega, fun z U K V t A k x b E n r F hK hk hM hcl hn hr => ?_⟩
  obtain ⟨U1, K1, a1, a2, a3, a4, a5⟩ := h1.2 z U K V t A k x b E n r F hK hk (hM.fr (fun _ _ => rfl) (by omega)) (fun j j0 j1 => hcl j j0 (by omega)) (by omega) (by omega)
  obtain ⟨U2, K2, d1, d2, d3, d4, d5⟩ := h2.2 z U1 K1 V t A k x b E (n + 1) r F hK hk (hM.fr a2 (by omega)) (fun j j0 j1 => by rw [a2 438 (by decide)]; exact hcl j (by omega) (by omega)) (by omega) (by omega)
  have f2 : ∀ a, a ≠ 443 → U2 a = U a := fun a ha => (d2 a ha).trans (a2 a ha)
  obtain ⟨g1, g2, g3, g4, g5, g6⟩ := hM.fr f2 (Int.le_refl _)
  have w : U2 438 (b + 2 * s2) = o := by rw [f2 438 (by decide)]; exact (hcl _ (by omega) (by omega)).trans c0
  have kn : K2 442 n = M1 A k := (d4 n (by omega)).trans a3
  have hw := y_M_asked (h := em U2 K2 z) (b1 V t A k hK hk) (b2 V t A k hK hk) hc
  exact ⟨_, K2, a1.trans (d1.trans (m_ask F g3 g4 (by omega) g6 w (by omega) rfl (by omega) (by omega) kn d3 hw asV_b)), fun a ha => by simp (disch := first | decide | omega | (simp (disch := first | decide | omega) only [sv_s, sv_o, ur_s, ur_e, ur_o]; omega)) only [↓reduceIte, iv_add, iv_sub, iv_mul, iv_neg, iv_ltT, iv_ltF, iv_leT, iv_leF, iv_eqT, iv_eqF, iv_div, iv_mod, ↓bnI_s, ↓bnV_s, ↓bnJ_s, ↓bnR_s, rt_e, rt_0, rt_bz, sv_s, sv_o, ur_s, ur_e, ur_o, bz_T, bz_F, nat_eqF, Nat.reduceAdd, f2 a ha], by simp (disch := first | decide | omega | (simp (disch := first | decide | omega) only [sv_s, sv_o, ur_s, ur_e, ur_o]; omega)) only [↓reduceIte, iv_add, iv_sub, iv_mul, iv_neg, iv_ltT, iv_ltF, iv_leT, iv_leF, iv_eqT, iv_eqF, iv_div, iv_mod, ↓bnI_s, ↓bnV_s, ↓bnJ_s, ↓bnR_s, rt_e, rt_0, rt_bz, sv_s, sv_o, ur_s, ur_e, ur_o, bz_T, bz_F, nat_eqF, Nat.reduceAdd], fun j hj => (d4 j (by omega)).trans (a4 j hj), fun j hj => by simp (disch := first | decide | omega | (simp (disch := first | decide | omega) only [sv_s, sv_o, ur_s, ur_e, ur_o]; omega)) only [↓reduceIte, iv_add, iv_sub, iv_mul, iv_neg, iv_ltT, iv_ltF, iv_leT, iv_leF, iv_eqT, iv_eqF, iv_div, iv_mod, ↓bnI_s, ↓bnV_s, ↓bnJ_s, ↓bnR_s, rt_e, rt_0, rt_bz, sv_s, sv_o, ur_s, ur_e, ur_o, bz_T, bz_F, nat_eqF, Nat.reduceAdd, d5 j hj, a5 j hj]⟩
theorem BE_not (h : BE mc s s1 M) (bd : M01 M) (c0 : mc (2 * s1) = 20) : BE mc s (s1 + 1) (fun A k => onV A 24 (M A k)) := by
  have h0 := h.1
  refine ⟨by omega, fun z U K V t A k x b E n r F hK hk hM hcl hn hr => ?_⟩
  obtain ⟨U1, K1, a1, a2, a3, a4, a5⟩ := h.2 z U K V t A k x b E n r F hK hk (hM.fr (fun _ _ => rfl) (by omega)) (fun j j0 j1 => hcl j j0 (by omega)) (by omega) (by omega)
  obtain ⟨h1, h2, h3, h4, h5, h6⟩ := hM.fr a2 (Int.le_refl _)
  have w : U1 438 (b + 2 * s1) = 20 := by rw [a2 438 (by decide)]; exact (hcl _ (by omega) (by omega)).trans c0
  exact ⟨_, K1, a1.trans (m_not F h3 h4 (by omega) h6 w rfl (by omega) a3 (bd V t A k hK hk)), fun a ha => by simp (disch := first | decide | omega | (simp (disch := first | decide | omega) only [sv_s, sv_o, ur_s, ur_e, ur_o]; omega)) only [↓reduceIte, iv_add, iv_sub, iv_mul, iv_neg, iv_ltT, iv_ltF, iv_leT, iv_leF, iv_eqT, iv_eqF, iv_div, iv_mod, ↓bnI_s, ↓bnV_s, ↓bnJ_s, ↓bnR_s, rt_e, rt_0, rt_bz, sv_s, sv_o, ur_s, ur_e, ur_o, bz_T, bz_F, nat_eqF, Nat.reduceAdd, a2 a ha], by simp (disch := first | decide | omega | (simp (disch := first | decide | omega) only [sv_s, sv_o, ur_s, ur_e, ur_o]; omega)) only [↓reduceIte, iv_add, iv_sub, iv_mul, iv_neg, iv_ltT, iv_ltF, iv_leT, iv_leF, iv_eqT, iv_eqF, iv_div, iv_mod, ↓bnI_s, ↓bnV_s, ↓bnJ_s, ↓bnR_s, rt_e, rt_0, rt_bz, sv_s, sv_o, ur_s, ur_e, ur_o, bz_T, bz_F, nat_eqF, Nat.reduceAdd]; unfold onV; rw [if_pos rfl], a4, fun j hj => by simp (disch := first | decide | omega | (simp (disch := first | decide | omega) only [sv_s, sv_o, ur_s, ur_e, ur_o]; omega)) only [↓reduceIte, iv_add, iv_sub, iv_mul, iv_neg, iv_ltT, iv_ltF, iv_leT, iv_leF, iv_eqT, iv_eqF, iv_div, iv_mod, ↓bnI_s, ↓bnV_s, ↓bnJ_s, ↓bnR_s, rt_e, rt_0, rt_bz, sv_s, sv_o, ur_s, ur_e, ur_o, bz_T, bz_F, nat_eqF, Nat.reduceAdd, a5 j hj]⟩
theorem BE_join (h1 : BE mc s s1 M1) (h2 : BE mc s1 s2 M2) (b1 : M01 M1) (b2 : M01 M2) {c o : Int} (hc : (c = 23 ∧ o = 21) ∨ (c = 22 ∧ o = 22)) (c0 : mc (2 * s2) = o) (h12 : s < s1 ∧ s1 < s2) : BE mc s (s2 + 1) (fun A k => asV c (M1 A k) (M2 A k)) := by
  have h10 := h1.1
  refine ⟨by omega, fun z U K V t A k x b E n r F hK hk hM hcl hn hr => ?_⟩
  obtain ⟨U1, K1, a1, a2, a3, a4, a5⟩ := h1.2 z U K V t A k x b E n r F hK hk (hM.fr (fun _ _ => rfl) (by omega)) (fun j j0 j1 => hcl j j0 (by omega)) (by omega) (by omega)
  obtain ⟨U2, K2, d1, d2, d3, d4, d5⟩ := h2.2 z U1 K1 V t A k x b E n (r + 1) F hK hk (hM.fr a2 (by omega)) (fun j j0 j1 => by rw [a2 438 (by decide)]; exact hcl j (by omega) (by omega)) (by omega) (by omega)
  have f2 : ∀ a, a ≠ 443 → U2 a = U a := fun a ha => (d2 a ha).trans (a2 a ha)
  obtain ⟨g1, g2, g3, g4, g5, g6⟩ := hM.fr f2 (Int.le_refl _)
  have w : U2 438 (b + 2 * s2) = o := by rw [f2 438 (by decide)]; exact (hcl _ (by omega) (by omega)).trans c0
  have kn : U2 443 r = M1 A k := (d5 r (by omega)).trans a3
  have hw := y_M_joined (h := em U2 K2 z) (b1 V t A k hK hk) (b2 V t A k hK hk) hc
  exact ⟨_, K2, a1.trans (d1.trans (m_join F g3 g4 (by omega) g6 w (by omega) rfl (by omega) kn d3 hw asV_b)), fun a ha => by simp (disch := first | decide | omega | (simp (disch := first | decide | omega) only [sv_s, sv_o, ur_s, ur_e, ur_o]; omega)) only [↓reduceIte, iv_add, iv_sub, iv_mul, iv_neg, iv_ltT, iv_ltF, iv_leT, iv_leF, iv_eqT, iv_eqF, iv_div, iv_mod, ↓bnI_s, ↓bnV_s, ↓bnJ_s, ↓bnR_s, rt_e, rt_0, rt_bz, sv_s, sv_o, ur_s, ur_e, ur_o, bz_T, bz_F, nat_eqF, Nat.reduceAdd, f2 a ha], by simp (disch := first | decide | omega | (simp (disch := first | decide | omega) only [sv_s, sv_o, ur_s, ur_e, ur_o]; omega)) only [↓reduceIte, iv_add, iv_sub, iv_mul, iv_neg, iv_ltT, iv_ltF, iv_leT, iv_leF, iv_eqT, iv_eqF, iv_div, iv_mod, ↓bnI_s, ↓bnV_s, ↓bnJ_s, ↓bnR_s, rt_e, rt_0, rt_bz, sv_s, sv_o, ur_s, ur_e, ur_o, bz_T, bz_F, nat_eqF, Nat.reduceAdd], fun j hj => (d4 j hj).trans (a4 j hj), fun j hj => by simp (disch := first | decide | omega | (simp (disch := first | decide | omega) only [sv_s, sv_o, ur_s, ur_e, ur_o]; omega)) only [↓reduceIte, iv_add, iv_sub, iv_mul, iv_neg, iv_ltT, iv_ltF, iv_leT, iv_leF, iv_eqT, iv_eqF, iv_div, iv_mod, ↓bnI_s, ↓bnV_s, ↓bnJ_s, ↓bnR_s, rt_e, rt_0, rt_bz, sv_s, sv_o, ur_s, ur_e, ur_o, bz_T, bz_F, nat_eqF, Nat.reduceAdd, d5 j (by omega), a5 j hj]⟩
theorem ME_sel (hC : BE mc s s1 C) (bC : M01 C) (h1 : ME mc s1 s2 M1) (h2 : ME mc s2 s3 M2) (c0 : mc (2 * s3) = 3) (h12 : s < s1 ∧ s1 < s2 ∧ s2 < s3) : ME mc s (s3 + 1) (fun A k => if C A k = 0 then M2 A k else M1 A k) := by
  have hC0 := hC.1
  refine ⟨by omega, fun z U K V t A k x b E n r F hK hk hM hcl hn hr => ?_⟩
  obtain ⟨U1, K1, a1, a2, a3, a4, a5⟩ := hC.2 z U K V t A k x b E n r F hK hk (hM.fr (fun _ _ => rfl) (by omega)) (fun j j0 j1 => hcl j j0 (by omega)) (by omega) (by omega)
  obtain ⟨U2, K2, d1, d2, d3, d4, d5⟩ := h1.2 z U1 K1 V t A k x b E n (r + 1) F hK hk (hM.fr a2 (by omega)) (fun j j0 j1 => by rw [a2 438 (by decide)]; exact hcl j (by omega) (by omega)) (by omega) (by omega)
  have f2 : ∀ a, a ≠ 443 → U2 a = U a := fun a ha => (d2 a ha).trans (a2 a ha)
  obtain ⟨U3, K3, q1, q2, q3, q4, q5⟩ := h2.2 z U2 K2 V t A k x b E (n + 1) (r + 1) F hK hk (hM.fr f2 (by omega)) (fun j j0 j1 => by rw [f2 438 (by decide)]; exact hcl j (by omega) (by omega)) (by omega) (by omega)
  have f3 : ∀ a, a ≠ 443 → U3 a = U a := fun a ha => (q2 a ha).trans (f2 a ha)
  obtain ⟨g1, g2, g3, g4, g5, g6⟩ := hM.fr f3 (Int.le_refl _)
  have w : U3 438 (b + 2 * s3) = 3 := by rw [f3 438 (by decide)]; exact (hcl _ (by omega) (by omega)).trans c0
  have tr : U3 443 r = C A k := (q5 r (by omega)).trans ((d5 r (by omega)).trans a3)
  have kn : K3 442 n = M1 A k := (q4 n (by omega)).trans d3
  have lo : ∀ j, j < n → K3 442 j = K 442 j := fun j hj => (q4 j (by omega)).trans ((d4 j hj).trans (a4 j hj))
  have lt : ∀ j, j < r → U3 443 j = U 443 j := fun j hj => (q5 j (by omega)).trans ((d5 j (by omega)).trans (a5 j hj))
  rcases bC V t A k hK hk with y | y
  · rw [y] at tr
    exact ⟨U3, _, a1.trans (d1.trans (q1.trans (m_sel0 F g3 g4 (by omega) g6 w rfl (by omega) (by omega) q3 tr))), f3, by show _ = if C A k = 0 then M2 A k else M1 A k; rw [y, if_pos rfl]; simp (disch := first | decide | omega | (simp (disch := first | decide | omega) only [sv_s, sv_o, ur_s, ur_e, ur_o]; omega)) only [↓reduceIte, iv_add, iv_sub, iv_mul, iv_neg, iv_ltT, iv_ltF, iv_leT, iv_leF, iv_eqT, iv_eqF, iv_div, iv_mod, ↓bnI_s, ↓bnV_s, ↓bnJ_s, ↓bnR_s, rt_e, rt_0, rt_bz, sv_s, sv_o, ur_s, ur_e, ur_o, bz_T, bz_F, nat_eqF, Nat.reduceAdd], fun j hj => by simp (disch := first | decide | omega | (simp (disch := first | decide | omega) only [sv_s, sv_o, ur_s, ur_e, ur_o]; omega)) only [↓reduceIte, iv_add, iv_sub, iv_mul, iv_neg, iv_ltT, iv_ltF, iv_leT, iv_leF, iv_eqT, iv_eqF, iv_div, iv_mod, ↓bnI_s, ↓bnV_s, ↓bnJ_s, ↓bnR_s, rt_e, rt_0, rt_bz, sv_s, sv_o, ur_s, ur_e, ur_o, bz_T, bz_F, nat_eqF, Nat.reduceAdd, lo j hj], lt⟩
  · rw [y] at tr
    exact ⟨U3, K3, a1.trans (d1.trans (q1.trans (m_sel1 F g3 g4 (by omega) g6 w rfl (by omega) (by omega) tr))), f3, by show _ = if C A k = 0 then M2 A k else M1 A k; rw [y, if_neg (by decide)]; exact kn, lo, lt⟩
end
