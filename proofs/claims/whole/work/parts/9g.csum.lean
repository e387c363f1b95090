/-! THE READING: products and sums -/
def OkC (V V' : Vm) (s : Sm) (i c j c' : Int) : Prop := Cp V' s j c' ∧ frR V V' ∧ (i < j ∧ j ≤ sM s) ∧ (c < c' ∧ c' - c ≤ j - i) ∧ ∀ q, q < c → V' 426 q = V 426 q
def NoC (V V' : Vm) (s : Sm) (i j f : Int) : Prop := Cd V' s f (sP s j) ∧ frR V V' ∧ (i ≤ j ∧ j ≤ sM s)
/-- what does not come behind -/
def StA (s : Sm) (l j : Int) : Prop := (l ≤ 6 → sK s j ≠ 31 ∧ sK s j ≠ 32) ∧ (l ≤ 5 → sK s j ≠ 29 ∧ sK s j ≠ 30)
def OutA (zm : Zz) (s : Sm) (V V' : Vm) (l d i c : Int) : Prop := (∃ j c' g M, OkC V V' s i c j c' ∧ (0 < g ∧ g ≤ j - i) ∧ CE (V' 426) c c' M ∧ MB M ∧ StA s l j ∧ MoA zm s l i j d g M) ∨ ∃ j f, NoC V V' s i j f ∧ MnA zm s l i j f d
def SpA (z zm : Zz) (s : Sm) (me : Nat) (l d : Int) : Prop := ∀ V J i c, Cp V s i c → (0 ≤ c ∧ c ≤ i ∧ i ≤ sM s) → ∃ V', cA me [.ref 424, .int (iv d)] (em V J z) = some (.null, em V' J z) ∧ OutA zm s V V' l d i c
def SpOn (z zm : Zz) (s : Sm) (d : Int) : Prop := ∀ V J i c, Cp V s i c → (0 ≤ c ∧ c ≤ i ∧ i ≤ sM s) → ∃ V', cA m_Reader_readOne [.ref 424, .int (iv d)] (em V J z) = some (.null, em V' J z) ∧ ((∃ j c' g M, OkC V V' s i c j c' ∧ (0 < g ∧ g ≤ j - i) ∧ CE (V' 426) c c' M ∧ MB M ∧ MoO zm s i j d g M) ∨ ∃ j f, NoC V V' s i j f ∧ MnO zm s i j f d)
section
variable {V V1 V2 V3 J : Vm} {z zm : Zz} {s : Sm} {l i c c1 c2 j j2 d f x : Int} {M1 M2 : (Int → Int) → Int → Int}
theorem SpOn.one (G : Fix zm) (h : SpOn z zm s d) (hd : 0 ≤ d ∧ d ≤ 8) : SpA z zm s m_Reader_readOne 7 d := by
  intro V J i c P hc
  obtain ⟨V', e, o⟩ := h V J i c P hc
  refine ⟨V', e, ?_⟩
  rcases o with ⟨j, c', g, M, o1, o2, o3, o4, o5⟩ | ⟨j, f, o1, o2⟩
  · exact Or.inl ⟨j, c', g, M, o1, o2, o3, o4, ⟨fun x => absurd x (by omega), fun x => absurd x (by omega)⟩, o5.one G hd⟩
  · exact Or.inr ⟨j, f, o1, o2.one⟩
theorem OutA.up (h : OutA zm s V V1 (l + 1) d i c) (st : ∀ j, (0 ≤ j ∧ j ≤ sM s) → V1 424 8 = j → V1 424 9 = 0 → StA s l j) (i0 : 0 ≤ i) : OutA zm s V V1 l d i c := by
  rcases h with ⟨j, c', g, M, o1, o2, o3, o4, o5, o6⟩ | ⟨j, f, o1, o2⟩
  · have q := o1.2.2.1
    exact Or.inl ⟨j, c', g, M, o1, o2, o3, o4, st j (by omega) o1.1.2.1 o1.1.2.2.1, o6.up⟩
  · exact Or.inr ⟨j, f, o1, o2.up⟩
theorem Cp.next (P : Cp V s i c) : Cp (sv V 424 8 (i + 1)) s (i + 1) c := by
  obtain ⟨p1, p2, p3, p4, p5⟩ := P
  exact ⟨(frR.w (by omega)).cs p1, by simp (disch := first | decide | omega | (simp (disch := first | decide | omega) only [sv_s, sv_o, ur_s, ur_e, ur_o]; omega)) only [↓reduceIte, iv_add, iv_sub, iv_mul, iv_neg, iv_ltT, iv_ltF, iv_leT, iv_leF, iv_eqT, iv_eqF, iv_div, iv_mod, ↓bnI_s, ↓bnV_s, ↓bnJ_s, ↓bnR_s, rt_e, rt_0, rt_bz, sv_s, sv_o, ur_s, ur_e, ur_o, bz_T, bz_F, nat_eqF, Nat.reduceAdd], by simp (disch := first | decide | omega | (simp (disch := first | decide | omega) only [sv_s, sv_o, ur_s, ur_e, ur_o]; omega)) only [↓reduceIte, iv_add, iv_sub, iv_mul, iv_neg, iv_ltT, iv_ltF, iv_leT, iv_leF, iv_eqT, iv_eqF, iv_div, iv_mod, ↓bnI_s, ↓bnV_s, ↓bnJ_s, ↓bnR_s, rt_e, rt_0, rt_bz, sv_s, sv_o, ur_s, ur_e, ur_o, bz_T, bz_F, nat_eqF, Nat.reduceAdd, p3], by simp (disch := first | decide | omega | (simp (disch := first | decide | omega) only [sv_s, sv_o, ur_s, ur_e, ur_o]; omega)) only [↓reduceIte, iv_add, iv_sub, iv_mul, iv_neg, iv_ltT, iv_ltF, iv_leT, iv_leF, iv_eqT, iv_eqF, iv_div, iv_mod, ↓bnI_s, ↓bnV_s, ↓bnJ_s, ↓bnR_s, rt_e, rt_0, rt_bz, sv_s, sv_o, ur_s, ur_e, ur_o, bz_T, bz_F, nat_eqF, Nat.reduceAdd, p4], by simp (disch := first | decide | omega | (simp (disch := first | decide | omega) only [sv_s, sv_o, ur_s, ur_e, ur_o]; omega)) only [↓reduceIte, iv_add, iv_sub, iv_mul, iv_neg, iv_ltT, iv_ltF, iv_leT, iv_leF, iv_eqT, iv_eqF, iv_div, iv_mod, ↓bnI_s, ↓bnV_s, ↓bnJ_s, ↓bnR_s, rt_e, rt_0, rt_bz, sv_s, sv_o, ur_s, ur_e, ur_o, bz_T, bz_F, nat_eqF, Nat.reduceAdd, p5, and_self]⟩
theorem cem_in {w : Int} (h4 : V 424 4 = c) (hc : 0 ≤ c ∧ c ≤ 300) : cem V w = sv (sv V 426 c w) 424 4 (c + 1) := by
  unfold cem
  rw [h4, pt_in (by omega), show min (c + 1) 301 = c + 1 by omega]
/-- one after another, and what is made of both -/
theorem OkC.op (h1 : OkC V V1 s i c j c1) (hc : 0 ≤ c ∧ c ≤ i) (C1 : CE (V1 426) c c1 M1) (h2 : OkC (sv V1 424 8 (j + 1)) V3 s (j + 1) c1 j2 c2) (C2 : CE (V3 426) c1 c2 M2) (n : sM s ≤ 300) {w : Int} (hw : w = 22 ∨ w = 23 ∨ (25 ≤ w ∧ w ≤ 32) ∨ w = 36 ∨ w = 37) {fn : Int → Int → Int} (hf : ∀ (V : Vm) (t : Nat) (A : Int → Int) (k : Int) (h : Mem), Kn V t A → (0 ≤ k ∧ k < A 0) → cA m_Asker_ofTwo [.int (iv w), .int (iv (M1 A k)), .int (iv (M2 A k))] h = some (.int (iv (fn (M1 A k) (M2 A k))), h)) : OkC V (cem V3 (w + 64 * 0)) s i c j2 (c2 + 1) ∧ CE (cem V3 (w + 64 * 0) 426) c (c2 + 1) (fun A k => fn (M1 A k) (M2 A k)) := by
  obtain ⟨a1, a2, a3, a4, a5⟩ := h1
  obtain ⟨b1, b2, b3, b4, b5⟩ := h2
  have fr : frR V V3 := (a2.tr (frR.w (by omega))).tr b2
  have e : cem V3 (w + 64 * 0) = sv (sv V3 426 c2 w) 424 4 (c2 + 1) := by rw [cem_in b1.2.2.2.1 (by omega), show w + 64 * 0 = w by omega]
  have o1 : ∀ q, q < c1 → V3 426 q = V1 426 q := fun q hq => by rw [b5 q hq]; simp (disch := first | decide | omega | (simp (disch := first | decide | omega) only [sv_s, sv_o, ur_s, ur_e, ur_o]; omega)) only [↓reduceIte, iv_add, iv_sub, iv_mul, iv_neg, iv_ltT, iv_ltF, iv_leT, iv_leF, iv_eqT, iv_eqF, iv_div, iv_mod, ↓bnI_s, ↓bnV_s, ↓bnJ_s, ↓bnR_s, rt_e, rt_0, rt_bz, sv_s, sv_o, ur_s, ur_e, ur_o, bz_T, bz_F, nat_eqF, Nat.reduceAdd]
  rw [e]
  obtain ⟨p1, p2, p3, p4, p5⟩ := b1
  refine ⟨⟨⟨(frR.w6.tr (frR.w (by omega))).cs p1, by simp (disch := first | decide | omega | (simp (disch := first | decide | omega) only [sv_s, sv_o, ur_s, ur_e, ur_o]; omega)) only [↓reduceIte, iv_add, iv_sub, iv_mul, iv_neg, iv_ltT, iv_ltF, iv_leT, iv_leF, iv_eqT, iv_eqF, iv_div, iv_mod, ↓bnI_s, ↓bnV_s, ↓bnJ_s, ↓bnR_s, rt_e, rt_0, rt_bz, sv_s, sv_o, ur_s, ur_e, ur_o, bz_T, bz_F, nat_eqF, Nat.reduceAdd, p2], by simp (disch := first | decide | omega | (simp (disch := first | decide | omega) only [sv_s, sv_o, ur_s, ur_e, ur_o]; omega)) only [↓reduceIte, iv_add, iv_sub, iv_mul, iv_neg, iv_ltT, iv_ltF, iv_leT, iv_leF, iv_eqT, iv_eqF, iv_div, iv_mod, ↓bnI_s, ↓bnV_s, ↓bnJ_s, ↓bnR_s, rt_e, rt_0, rt_bz, sv_s, sv_o, ur_s, ur_e, ur_o, bz_T, bz_F, nat_eqF, Nat.reduceAdd, p3], by simp (disch := first | decide | omega | (simp (disch := first | decide | omega) only [sv_s, sv_o, ur_s, ur_e, ur_o]; omega)) only [↓reduceIte, iv_add, iv_sub, iv_mul, iv_neg, iv_ltT, iv_ltF, iv_leT, iv_leF, iv_eqT, iv_eqF, iv_div, iv_mod, ↓bnI_s, ↓bnV_s, ↓bnJ_s, ↓bnR_s, rt_e, rt_0, rt_bz, sv_s, sv_o, ur_s, ur_e, ur_o, bz_T, bz_F, nat_eqF, Nat.reduceAdd], by simp (disch := first | decide | omega | (simp (disch := first | decide | omega) only [sv_s, sv_o, ur_s, ur_e, ur_o]; omega)) only [↓reduceIte, iv_add, iv_sub, iv_mul, iv_neg, iv_ltT, iv_ltF, iv_leT, iv_leF, iv_eqT, iv_eqF, iv_div, iv_mod, ↓bnI_s, ↓bnV_s, ↓bnJ_s, ↓bnR_s, rt_e, rt_0, rt_bz, sv_s, sv_o, ur_s, ur_e, ur_o, bz_T, bz_F, nat_eqF, Nat.reduceAdd, p5, and_self]⟩, fr.tr (frR.w6.tr (frR.w (by omega))), by omega, by omega, fun q hq => by simp (disch := first | decide | omega | (simp (disch := first | decide | omega) only [sv_s, sv_o, ur_s, ur_e, ur_o]; omega)) only [↓reduceIte, iv_add, iv_sub, iv_mul, iv_neg, iv_ltT, iv_ltF, iv_leT, iv_leF, iv_eqT, iv_eqF, iv_div, iv_mod, ↓bnI_s, ↓bnV_s, ↓bnJ_s, ↓bnR_s, rt_e, rt_0, rt_bz, sv_s, sv_o, ur_s, ur_e, ur_o, bz_T, bz_F, nat_eqF, Nat.reduceAdd, o1 q (by omega), a5 q hq]⟩, ?_⟩
  have x1 : CE (sv (sv V3 426 c2 w) 424 4 (c2 + 1) 426) c c1 M1 := C1.ext (fun q q0 q1 => by simp (disch := first | decide | omega | (simp (disch := first | decide | omega) only [sv_s, sv_o, ur_s, ur_e, ur_o]; omega)) only [↓reduceIte, iv_add, iv_sub, iv_mul, iv_neg, iv_ltT, iv_ltF, iv_leT, iv_leF, iv_eqT, iv_eqF, iv_div, iv_mod, ↓bnI_s, ↓bnV_s, ↓bnJ_s, ↓bnR_s, rt_e, rt_0, rt_bz, sv_s, sv_o, ur_s, ur_e, ur_o, bz_T, bz_F, nat_eqF, Nat.reduceAdd, o1 q q1])
  have x2 : CE (sv (sv V3 426 c2 w) 424 4 (c2 + 1) 426) c1 c2 M2 := C2.ext (fun q q0 q1 => by simp (disch := first | decide | omega | (simp (disch := first | decide | omega) only [sv_s, sv_o, ur_s, ur_e, ur_o]; omega)) only [↓reduceIte, iv_add, iv_sub, iv_mul, iv_neg, iv_ltT, iv_ltF, iv_leT, iv_leF, iv_eqT, iv_eqF, iv_div, iv_mod, ↓bnI_s, ↓bnV_s, ↓bnJ_s, ↓bnR_s, rt_e, rt_0, rt_bz, sv_s, sv_o, ur_s, ur_e, ur_o, bz_T, bz_F, nat_eqF, Nat.reduceAdd])
  exact CE_op x1 x2 hw (by simp (disch := first | decide | omega | (simp (disch := first | decide | omega) only [sv_s, sv_o, ur_s, ur_e, ur_o]; omega)) only [↓reduceIte, iv_add, iv_sub, iv_mul, iv_neg, iv_ltT, iv_ltF, iv_leT, iv_leF, iv_eqT, iv_eqF, iv_div, iv_mod, ↓bnI_s, ↓bnV_s, ↓bnJ_s, ↓bnR_s, rt_e, rt_0, rt_bz, sv_s, sv_o, ur_s, ur_e, ur_o, bz_T, bz_F, nat_eqF, Nat.reduceAdd]) fn hf (by omega)
theorem NoC.op (h1 : OkC V V1 s i c j c1) (h2 : NoC (sv V1 424 8 (j + 1)) V3 s (j + 1) j2 f) {w : Int} : NoC V (cem V3 w) s i j2 f := by
  obtain ⟨a1, a2, a3, a4, a5⟩ := h1
  obtain ⟨b1, b2, b3⟩ := h2
  exact ⟨b1.cem_, ((a2.tr (frR.w (by omega))).tr b2).tr frR.cem_, by omega⟩
theorem twV_MB {k : Int} (h : MB M1) : MB (fun A q => twV k (M1 A q) (M2 A q)) := fun V t A q K h0 => twV_b (h V t A q K h0)
theorem two_f {w : Int} (hw : 29 ≤ w ∧ w ≤ 32) (B1 : MB M1) (B2 : MB M2) : ∀ (V : Vm) (t : Nat) (A : Int → Int) (k : Int) (h : Mem), Kn V t A → (0 ≤ k ∧ k < A 0) → cA m_Asker_ofTwo [.int (iv w), .int (iv (M1 A k)), .int (iv (M2 A k))] h = some (.int (iv (twV w (M1 A k) (M2 A k))), h) := fun V t A k h hK hk => y_ofTwo (B1 V t A k hK hk) (B2 V t A k hK hk) hw
theorem y_prod_l (F : Fix z) (G : Fix zm) (S : SO s) (O : SpA z zm s m_Reader_readOne 7 d) (hd : 0 ≤ d ∧ d ≤ 8) (J : Vm) : ∀ (m : Nat) (V1 : Vm) (j c1 g1 x : Int) (M1 : (Int → Int) → Int → Int), (0 ≤ c ∧ c ≤ i) → OkC V V1 s i c j c1 → (0 < g1 ∧ g1 ≤ j - i) → CE (V1 426) c c1 M1 → MB M1 → MoA zm s 6 i j d g1 M1 → sM s - j ≤ m → (0 ≤ x ∧ x ≤ j) → ∃ V', rX (rkk m_Reader_readProduct [.ref 424, .int (iv d)]) m_Reader_readProduct 7 [.ref 424, .int (iv d), .int (iv x), dd] [] (em V1 J z) = some (.null, em V' J z) ∧ OutA zm s V V' 6 d i c := by
  intro m
  induction m with
  | zero =>
    intro V1 j c1 g1 x M1 hc h1 hg C1 B1 o hm hx
    have a3 := h1.2.2.1
    obtain ⟨p1, p2, p3, p4, p5⟩ := h1.1
    have S1 := S.1
    have k40 : sK s j = 40 := (S.2.2.2 j (by omega) a3.2).2.2.mpr (by omega)
    have kd := y_kind (J := J) F S p1 (by omega)
    rw [p2, k40] at kd
    refine ⟨V1, ?_, Or.inl ⟨j, c1, g1, M1, h1, hg, C1, B1, ⟨fun _ => by omega, fun q => absurd q (by omega)⟩, o⟩⟩
    by_cases q : x < 300
    · (rw [q_Reader_readProduct_7]; simp (disch := first | decide | omega | (simp (disch := first | decide | omega) only [sv_s, sv_o, ur_s, ur_e, ur_o]; omega)) only [↓reduceIte, iv_add, iv_sub, iv_mul, iv_neg, iv_ltT, iv_ltF, iv_leT, iv_leF, iv_eqT, iv_eqF, iv_div, iv_mod, ↓bnI_s, ↓bnV_s, ↓bnJ_s, ↓bnR_s, rt_e, rt_0, rt_bz, sv_s, sv_o, ur_s, ur_e, ur_o, bz_T, bz_F, nat_eqF, Nat.reduceAdd, ↓gI_424_9 F, il_0, il_1, il_4, il_7, il_9, il_31, il_32, il_39, il_300, ↓g_lo, kd, p3])
    · (rw [q_Reader_readProduct_7]; simp (disch := first | decide | omega | (simp (disch := first | decide | omega) only [sv_s, sv_o, ur_s, ur_e, ur_o]; omega)) only [↓reduceIte, iv_add, iv_sub, iv_mul, iv_neg, iv_ltT, iv_ltF, iv_leT, iv_leF, iv_eqT, iv_eqF, iv_div, iv_mod, ↓bnI_s, ↓bnV_s, ↓bnJ_s, ↓bnR_s, rt_e, rt_0, rt_bz, sv_s, sv_o, ur_s, ur_e, ur_o, bz_T, bz_F, nat_eqF, Nat.reduceAdd, ↓gI_424_9 F, il_0, il_1, il_4, il_7, il_9, il_31, il_32, il_39, il_300])
  | succ m ih =>
    intro V1 j c1 g1 x M1 hc h1 hg C1 B1 o hm hx
    have a3 := h1.2.2.1
    have P := h1.1
    obtain ⟨p1, p2, p3, p4, p5⟩ := h1.1
    have S1 := S.1
    have kr := (S.rg (j := j) (by omega) a3.2).2.2.1
    have kd := y_kind (J := J) F S p1 (by omega)
    rw [p2] at kd
    by_cases k : sK s j = 31 ∨ sK s j = 32
    · have jm : j < sM s := by
        by_cases w : j = sM s
        · have := (S.2.2.2 j (by omega) a3.2).2.2.mpr w
          omega
        · omega
      obtain ⟨V3, e3, out⟩ := O (sv V1 424 8 (j + 1)) J (j + 1) c1 P.next (by have := h1.2.2.2.1; omega)
      have step : rX (rkk m_Reader_readProduct [.ref 424, .int (iv d)]) m_Reader_readProduct 7 [.ref 424, .int (iv d), .int (iv x), dd] [] (em V1 J z) = rX (rkk m_Reader_readProduct [.ref 424, .int (iv d)]) m_Reader_readProduct 7 [.ref 424, .int (iv d), .int (iv (x + 1)), dd] [] (em (cem V3 (sK s j + 64 * 0)) J z) := by
        have c3 : 0 ≤ V3 424 4 ∧ V3 424 4 ≤ 301 := by
          rcases out with ⟨j2, c2, g2, M2, o1, _⟩ | ⟨j2, f, o1, _⟩
          · have := o1.1.2.2.2.1; have := o1.2.2.1; have := o1.2.2.2.1; have := h1.2.2.2.1; omega
          · exact o1.1.2.2.2.2
        have ce := y_cemit (J := J) (x := sK s j) (y := 0) F c3
        generalize cem V3 (sK s j + 64 * 0) = V4 at *
        conv => lhs; rw [q_Reader_readProduct_7]
        rcases k with k | k
        · rw [k] at kd ce
          simp (disch := first | decide | omega | (simp (disch := first | decide | omega) only [sv_s, sv_o, ur_s, ur_e, ur_o]; omega)) only [↓reduceIte, iv_add, iv_sub, iv_mul, iv_neg, iv_ltT, iv_ltF, iv_leT, iv_leF, iv_eqT, iv_eqF, iv_div, iv_mod, ↓bnI_s, ↓bnV_s, ↓bnJ_s, ↓bnR_s, rt_e, rt_0, rt_bz, sv_s, sv_o, ur_s, ur_e, ur_o, bz_T, bz_F, nat_eqF, Nat.reduceAdd, ↓gI_424_9 F, ↓gI_424_8 F, ↓pI_424_8 F, il_0, il_1, il_4, il_7, il_8, il_9, il_31, il_32, il_39, il_300, ↓g_lo, ↓g_sd, ↓q_Reader_readProduct_39, kd, p3, p2, e3, ce]
        · rw [k] at kd ce
          simp (disch := first | decide | omega | (simp (disch := first | decide | omega) only [sv_s, sv_o, ur_s, ur_e, ur_o]; omega)) only [↓reduceIte, iv_add, iv_sub, iv_mul, iv_neg, iv_ltT, iv_ltF, iv_leT, iv_leF, iv_eqT, iv_eqF, iv_div, iv_mod, ↓bnI_s, ↓bnV_s, ↓bnJ_s, ↓bnR_s, rt_e, rt_0, rt_bz, sv_s, sv_o, ur_s, ur_e, ur_o, bz_T, bz_F, nat_eqF, Nat.reduceAdd, ↓gI_424_9 F, ↓gI_424_8 F, ↓pI_424_8 F, il_0, il_1, il_4, il_7, il_8, il_9, il_31, il_32, il_39, il_300, ↓g_lo, ↓g_sd, ↓q_Reader_readProduct_39, kd, p3, p2, e3, ce]
      rw [step]
      have rkk6 : rk (sK s j - 23) = 6 := by rcases k with k | k <;> rw [k] <;> rfl
      rcases out with ⟨j2, c2, g2, M2, o1, o2, o3, o4, o5, o6⟩ | ⟨j2, f, o1, o2⟩
      · have q1 := o1.2.2.1
        obtain ⟨n1, n2⟩ := h1.op hc C1 o1 o3 (by omega) (w := sK s j) (by omega) (two_f (by omega) B1 o4)
        have n3 := MoA.step G S (l := 6) o o6 (Or.inr rfl) hd (by omega) hg o2 ⟨by omega, rkk6⟩ B1 o4
        exact ih _ j2 (c2 + 1) (g1 + g2 + 1) (x + 1) _ hc n1 (by omega) n2 (twV_MB B1) n3 (by omega) (by omega)
      · have n1 := NoC.op h1 o1 (w := sK s j + 64 * 0)
        have n2 := MnA.step G S (l := 6) o o2 (Or.inr rfl) hd (by omega) hg ⟨by omega, rkk6⟩
        refine ⟨_, ?_, Or.inr ⟨j2, f, n1, n2⟩⟩
        obtain ⟨d1, d2, ⟨d3, d3a, d3b⟩, d4, d5⟩ := n1.1
        generalize cem V3 (sK s j + 64 * 0) = V4 at *
        by_cases q : x + 1 < 300
        · (rw [q_Reader_readProduct_7]; simp (disch := first | decide | omega | (simp (disch := first | decide | omega) only [sv_s, sv_o, ur_s, ur_e, ur_o]; omega)) only [↓reduceIte, iv_add, iv_sub, iv_mul, iv_neg, iv_ltT, iv_ltF, iv_leT, iv_leF, iv_eqT, iv_eqF, iv_div, iv_mod, ↓bnI_s, ↓bnV_s, ↓bnJ_s, ↓bnR_s, rt_e, rt_0, rt_bz, sv_s, sv_o, ur_s, ur_e, ur_o, bz_T, bz_F, nat_eqF, Nat.reduceAdd, ↓gI_424_9 F, il_0, il_1, il_4, il_7, il_9, il_31, il_32, il_39, il_300, ↓g_lo, d3])
        · (rw [q_Reader_readProduct_7]; simp (disch := first | decide | omega | (simp (disch := first | decide | omega) only [sv_s, sv_o, ur_s, ur_e, ur_o]; omega)) only [↓reduceIte, iv_add, iv_sub, iv_mul, iv_neg, iv_ltT, iv_ltF, iv_leT, iv_leF, iv_eqT, iv_eqF, iv_div, iv_mod, ↓bnI_s, ↓bnV_s, ↓bnJ_s, ↓bnR_s, rt_e, rt_0, rt_bz, sv_s, sv_o, ur_s, ur_e, ur_o, bz_T, bz_F, nat_eqF, Nat.reduceAdd, ↓gI_424_9 F, il_0, il_1, il_4, il_7, il_9, il_31, il_32, il_39, il_300])
    · have k1 : sK s j < 31 ∨ 32 < sK s j := by omega
      refine ⟨V1, ?_, Or.inl ⟨j, c1, g1, M1, h1, hg, C1, B1, ⟨fun _ => by omega, fun q => absurd q (by omega)⟩, o⟩⟩
      clear k
      generalize sK s j = kk at *
      by_cases q : x < 300
      · (rw [q_Reader_readProduct_7]; simp (disch := first | decide | omega | (simp (disch := first | decide | omega) only [sv_s, sv_o, ur_s, ur_e, ur_o]; omega)) only [↓reduceIte, iv_add, iv_sub, iv_mul, iv_neg, iv_ltT, iv_ltF, iv_leT, iv_leF, iv_eqT, iv_eqF, iv_div, iv_mod, ↓bnI_s, ↓bnV_s, ↓bnJ_s, ↓bnR_s, rt_e, rt_0, rt_bz, sv_s, sv_o, ur_s, ur_e, ur_o, bz_T, bz_F, nat_eqF, Nat.reduceAdd, ↓gI_424_9 F, il_0, il_1, il_4, il_7, il_9, il_31, il_32, il_39, il_300, ↓g_lo, kd, p3])
      · (rw [q_Reader_readProduct_7]; simp (disch := first | decide | omega | (simp (disch := first | decide | omega) only [sv_s, sv_o, ur_s, ur_e, ur_o]; omega)) only [↓reduceIte, iv_add, iv_sub, iv_mul, iv_neg, iv_ltT, iv_ltF, iv_leT, iv_leF, iv_eqT, iv_eqF, iv_div, iv_mod, ↓bnI_s, ↓bnV_s, ↓bnJ_s, ↓bnR_s, rt_e, rt_0, rt_bz, sv_s, sv_o, ur_s, ur_e, ur_o, bz_T, bz_F, nat_eqF, Nat.reduceAdd, ↓gI_424_9 F, il_0, il_1, il_4, il_7, il_9, il_31, il_32, il_39, il_300])
theorem y_prod (F : Fix z) (G : Fix zm) (S : SO s) (O : SpA z zm s m_Reader_readOne 7 d) (hd : 0 ≤ d ∧ d ≤ 8) : SpA z zm s m_Reader_readProduct 6 d := by
  intro V J i c P hc
  obtain ⟨V1, e1, out⟩ := O V J i c P hc
  have st : cA m_Reader_readProduct [.ref 424, .int (iv d)] (em V J z) = rX (rkk m_Reader_readProduct [.ref 424, .int (iv d)]) m_Reader_readProduct 7 [.ref 424, .int (iv d), .int (iv 0), dd] [] (em V1 J z) := by
    simp (disch := first | decide | omega | (simp (disch := first | decide | omega) only [sv_s, sv_o, ur_s, ur_e, ur_o]; omega)) only [↓reduceIte, iv_add, iv_sub, iv_mul, iv_neg, iv_ltT, iv_ltF, iv_leT, iv_leF, iv_eqT, iv_eqF, iv_div, iv_mod, ↓bnI_s, ↓bnV_s, ↓bnJ_s, ↓bnR_s, rt_e, rt_0, rt_bz, sv_s, sv_o, ur_s, ur_e, ur_o, bz_T, bz_F, nat_eqF, Nat.reduceAdd, ↓q_Reader_readProduct, ↓gd_424 F, il_0, il_1, il_7, il_20, ↓g_sd, e1]
  rw [st]
  rcases out with ⟨j, c1, g, M, o1, o2, o3, o4, o5, o6⟩ | ⟨j, f, o1, o2⟩
  · exact y_prod_l F G S O hd J (sM s - j).toNat V1 j c1 g 0 M (by omega) o1 o2 o3 o4 o6.up (by omega) (by have := o1.2.2.1; omega)
  · refine ⟨V1, ?_, Or.inr ⟨j, f, o1, o2.up⟩⟩
    obtain ⟨d1, d2, ⟨d3, d3a, d3b⟩, d4, d5⟩ := o1.1
    (rw [q_Reader_readProduct_7]; simp (disch := first | decide | omega | (simp (disch := first | decide | omega) only [sv_s, sv_o, ur_s, ur_e, ur_o]; omega)) only [↓reduceIte, iv_add, iv_sub, iv_mul, iv_neg, iv_ltT, iv_ltF, iv_leT, iv_leF, iv_eqT, iv_eqF, iv_div, iv_mod, ↓bnI_s, ↓bnV_s, ↓bnJ_s, ↓bnR_s, rt_e, rt_0, rt_bz, sv_s, sv_o, ur_s, ur_e, ur_o, bz_T, bz_F, nat_eqF, Nat.reduceAdd, ↓gI_424_9 F, il_0, il_1, il_4, il_7, il_9, il_31, il_32, il_39, il_300, ↓g_lo, d3])
theorem y_sum_l (F : Fix z) (G : Fix zm) (S : SO s) (O : SpA z zm s m_Reader_readProduct 6 d) (hd : 0 ≤ d ∧ d ≤ 8) (J : Vm) : ∀ (m : Nat) (V1 : Vm) (j c1 g1 x : Int) (M1 : (Int → Int) → Int → Int), (0 ≤ c ∧ c ≤ i) → OkC V V1 s i c j c1 → (0 < g1 ∧ g1 ≤ j - i) → CE (V1 426) c c1 M1 → MB M1 → StA s 6 j → MoA zm s 5 i j d g1 M1 → sM s - j ≤ m → (0 ≤ x ∧ x ≤ j) → ∃ V', rX (rkk m_Reader_readSum [.ref 424, .int (iv d)]) m_Reader_readSum 7 [.ref 424, .int (iv d), .int (iv x), dd] [] (em V1 J z) = some (.null, em V' J z) ∧ OutA zm s V V' 5 d i c := by
  intro m
  induction m with
  | zero =>
    intro V1 j c1 g1 x M1 hc h1 hg C1 B1 sa o hm hx
    have a3 := h1.2.2.1
    obtain ⟨p1, p2, p3, p4, p5⟩ := h1.1
    have S1 := S.1
    have k40 : sK s j = 40 := (S.2.2.2 j (by omega) a3.2).2.2.mpr (by omega)
    have kd := y_kind (J := J) F S p1 (by omega)
    rw [p2, k40] at kd
    refine ⟨V1, ?_, Or.inl ⟨j, c1, g1, M1, h1, hg, C1, B1, ⟨fun _ => sa.1 (by decide), fun _ => by omega⟩, o⟩⟩
    by_cases q : x < 300
    · (rw [q_Reader_readSum_7]; simp (disch := first | decide | omega | (simp (disch := first | decide | omega) only [sv_s, sv_o, ur_s, ur_e, ur_o]; omega)) only [↓reduceIte, iv_add, iv_sub, iv_mul, iv_neg, iv_ltT, iv_ltF, iv_leT, iv_leF, iv_eqT, iv_eqF, iv_div, iv_mod, ↓bnI_s, ↓bnV_s, ↓bnJ_s, ↓bnR_s, rt_e, rt_0, rt_bz, sv_s, sv_o, ur_s, ur_e, ur_o, bz_T, bz_F, nat_eqF, Nat.reduceAdd, ↓gI_424_9 F, il_0, il_1, il_4, il_7, il_9, il_29, il_30, il_39, il_300, ↓g_lo, kd, p3])
    · (rw [q_Reader_readSum_7]; simp (disch := first | decide | omega | (simp (disch := first | decide | omega) only [sv_s, sv_o, ur_s, ur_e, ur_o]; omega)) only [↓reduceIte, iv_add, iv_sub, iv_mul, iv_neg, iv_ltT, iv_ltF, iv_leT, iv_leF, iv_eqT, iv_eqF, iv_div, iv_mod, ↓bnI_s, ↓bnV_s, ↓bnJ_s, ↓bnR_s, rt_e, rt_0, rt_bz, sv_s, sv_o, ur_s, ur_e, ur_o, bz_T, bz_F, nat_eqF, Nat.reduceAdd, ↓gI_424_9 F, il_0, il_1, il_4, il_7, il_9, il_29, il_30, il_39, il_300])
  | succ m ih =>
    intro V1 j c1 g1 x M1 hc h1 hg C1 B1 sa o hm hx
    have a3 := h1.2.2.1
    have P := h1.1
    obtain ⟨p1, p2, p3, p4, p5⟩ := h1.1
    have S1 := S.1
    have kr := (S.rg (j := j) (by omega) a3.2).2.2.1
    have kd := y_kind (J := J) F S p1 (by omega)
    rw [p2] at kd
    by_cases k : sK s j = 29 ∨ sK s j = 30
    · have jm : j < sM s := by
        by_cases w : j = sM s
        · have := (S.2.2.2 j (by omega) a3.2).2.2.mpr w
          omega
        · omega
      obtain ⟨V3, e3, out⟩ := O (sv V1 424 8 (j + 1)) J (j + 1) c1 P.next (by have := h1.2.2.2.1; omega)
      have step : rX (rkk m_Reader_readSum [.ref 424, .int (iv d)]) m_Reader_readSum 7 [.ref 424, .int (iv d), .int (iv x), dd] [] (em V1 J z) = rX (rkk m_Reader_readSum [.ref 424, .int (iv d)]) m_Reader_readSum 7 [.ref 424, .int (iv d), .int (iv (x + 1)), dd] [] (em (cem V3 (sK s j + 64 * 0)) J z) := by
        have c3 : 0 ≤ V3 424 4 ∧ V3 424 4 ≤ 301 := by
          rcases out with ⟨j2, c2, g2, M2, o1, _⟩ | ⟨j2, f, o1, _⟩
          · have := o1.1.2.2.2.1; have := o1.2.2.1; have := o1.2.2.2.1; have := h1.2.2.2.1; omega
          · exact o1.1.2.2.2.2
        have ce := y_cemit (J := J) (x := sK s j) (y := 0) F c3
        generalize cem V3 (sK s j + 64 * 0) = V4 at *
        conv => lhs; rw [q_Reader_readSum_7]
        rcases k with k | k
        · rw [k] at kd ce
          simp (disch := first | decide | omega | (simp (disch := first | decide | omega) only [sv_s, sv_o, ur_s, ur_e, ur_o]; omega)) only [↓reduceIte, iv_add, iv_sub, iv_mul, iv_neg, iv_ltT, iv_ltF, iv_leT, iv_leF, iv_eqT, iv_eqF, iv_div, iv_mod, ↓bnI_s, ↓bnV_s, ↓bnJ_s, ↓bnR_s, rt_e, rt_0, rt_bz, sv_s, sv_o, ur_s, ur_e, ur_o, bz_T, bz_F, nat_eqF, Nat.reduceAdd, ↓gI_424_9 F, ↓gI_424_8 F, ↓pI_424_8 F, il_0, il_1, il_4, il_7, il_8, il_9, il_29, il_30, il_39, il_300, ↓g_lo, ↓g_sd, ↓q_Reader_readSum_39, kd, p3, p2, e3, ce]
        · rw [k] at kd ce
          simp (disch := first | decide | omega | (simp (disch := first | decide | omega) only [sv_s, sv_o, ur_s, ur_e, ur_o]; omega)) only [↓reduceIte, iv_add, iv_sub, iv_mul, iv_neg, iv_ltT, iv_ltF, iv_leT, iv_leF, iv_eqT, iv_eqF, iv_div, iv_mod, ↓bnI_s, ↓bnV_s, ↓bnJ_s, ↓bnR_s, rt_e, rt_0, rt_bz, sv_s, sv_o, ur_s, ur_e, ur_o, bz_T, bz_F, nat_eqF, Nat.reduceAdd, ↓gI_424_9 F, ↓gI_424_8 F, ↓pI_424_8 F, il_0, il_1, il_4, il_7, il_8, il_9, il_29, il_30, il_39, il_300, ↓g_lo, ↓g_sd, ↓q_Reader_readSum_39, kd, p3, p2, e3, ce]
      rw [step]
      have rkk6 : rk (sK s j - 23) = 5 := by rcases k with k | k <;> rw [k] <;> rfl
      rcases out with ⟨j2, c2, g2, M2, o1, o2, o3, o4, o5, o6⟩ | ⟨j2, f, o1, o2⟩
      · have q1 := o1.2.2.1
        obtain ⟨n1, n2⟩ := h1.op hc C1 o1 o3 (by omega) (w := sK s j) (by omega) (two_f (by omega) B1 o4)
        have n3 := MoA.step G S (l := 5) o o6 (Or.inl rfl) hd (by omega) hg o2 ⟨by omega, rkk6⟩ B1 o4
        exact ih _ j2 (c2 + 1) (g1 + g2 + 1) (x + 1) _ hc n1 (by omega) n2 (twV_MB B1) o5 n3 (by omega) (by omega)
      · have n1 := NoC.op h1 o1 (w := sK s j + 64 * 0)
        have n2 := MnA.step G S (l := 5) o o2 (Or.inl rfl) hd (by omega) hg ⟨by omega, rkk6⟩
        refine ⟨_, ?_, Or.inr ⟨j2, f, n1, n2⟩⟩
        obtain ⟨d1, d2, ⟨d3, d3a, d3b⟩, d4, d5⟩ := n1.1
        generalize cem V3 (sK s j + 64 * 0) = V4 at *
        by_cases q : x + 1 < 300
        · (rw [q_Reader_readSum_7]; simp (disch := first | decide | omega | (simp (disch := first | decide | omega) only [sv_s, sv_o, ur_s, ur_e, ur_o]; omega)) only [↓reduceIte, iv_add, iv_sub, iv_mul, iv_neg, iv_ltT, iv_ltF, iv_leT, iv_leF, iv_eqT, iv_eqF, iv_div, iv_mod, ↓bnI_s, ↓bnV_s, ↓bnJ_s, ↓bnR_s, rt_e, rt_0, rt_bz, sv_s, sv_o, ur_s, ur_e, ur_o, bz_T, bz_F, nat_eqF, Nat.reduceAdd, ↓gI_424_9 F, il_0, il_1, il_4, il_7, il_9, il_29, il_30, il_39, il_300, ↓g_lo, d3])
        · (rw [q_Reader_readSum_7]; simp (disch := first | decide | omega | (simp (disch := first | decide | omega) only [sv_s, sv_o, ur_s, ur_e, ur_o]; omega)) only [↓reduceIte, iv_add, iv_sub, iv_mul, iv_neg, iv_ltT, iv_ltF, iv_leT, iv_leF, iv_eqT, iv_eqF, iv_div, iv_mod, ↓bnI_s, ↓bnV_s, ↓bnJ_s, ↓bnR_s, rt_e, rt_0, rt_bz, sv_s, sv_o, ur_s, ur_e, ur_o, bz_T, bz_F, nat_eqF, Nat.reduceAdd, ↓gI_424_9 F, il_0, il_1, il_4, il_7, il_9, il_29, il_30, il_39, il_300])
    · have k1 : sK s j < 29 ∨ 30 < sK s j := by omega
      refine ⟨V1, ?_, Or.inl ⟨j, c1, g1, M1, h1, hg, C1, B1, ⟨fun _ => sa.1 (by decide), fun _ => by omega⟩, o⟩⟩
      clear k
      generalize sK s j = kk at *
      by_cases q : x < 300
      · (rw [q_Reader_readSum_7]; simp (disch := first | decide | omega | (simp (disch := first | decide | omega) only [sv_s, sv_o, ur_s, ur_e, ur_o]; omega)) only [↓reduceIte, iv_add, iv_sub, iv_mul, iv_neg, iv_ltT, iv_ltF, iv_leT, iv_leF, iv_eqT, iv_eqF, iv_div, iv_mod, ↓bnI_s, ↓bnV_s, ↓bnJ_s, ↓bnR_s, rt_e, rt_0, rt_bz, sv_s, sv_o, ur_s, ur_e, ur_o, bz_T, bz_F, nat_eqF, Nat.reduceAdd, ↓gI_424_9 F, il_0, il_1, il_4, il_7, il_9, il_29, il_30, il_39, il_300, ↓g_lo, kd, p3])
      · (rw [q_Reader_readSum_7]; simp (disch := first | decide | omega | (simp (disch := first | decide | omega) only [sv_s, sv_o, ur_s, ur_e, ur_o]; omega)) only [↓reduceIte, iv_add, iv_sub, iv_mul, iv_neg, iv_ltT, iv_ltF, iv_leT, iv_leF, iv_eqT, iv_eqF, iv_div, iv_mod, ↓bnI_s, ↓bnV_s, ↓bnJ_s, ↓bnR_s, rt_e, rt_0, rt_bz, sv_s, sv_o, ur_s, ur_e, ur_o, bz_T, bz_F, nat_eqF, Nat.reduceAdd, ↓gI_424_9 F, il_0, il_1, il_4, il_7, il_9, il_29, il_30, il_39, il_300])
theorem y_sum (F : Fix z) (G : Fix zm) (S : SO s) (O : SpA z zm s m_Reader_readProduct 6 d) (hd : 0 ≤ d ∧ d ≤ 8) : SpA z zm s m_Reader_readSum 5 d := by
  intro V J i c P hc
  obtain ⟨V1, e1, out⟩ := O V J i c P hc
  have st : cA m_Reader_readSum [.ref 424, .int (iv d)] (em V J z) = rX (rkk m_Reader_readSum [.ref 424, .int (iv d)]) m_Reader_readSum 7 [.ref 424, .int (iv d), .int (iv 0), dd] [] (em V1 J z) := by
    simp (disch := first | decide | omega | (simp (disch := first | decide | omega) only [sv_s, sv_o, ur_s, ur_e, ur_o]; omega)) only [↓reduceIte, iv_add, iv_sub, iv_mul, iv_neg, iv_ltT, iv_ltF, iv_leT, iv_leF, iv_eqT, iv_eqF, iv_div, iv_mod, ↓bnI_s, ↓bnV_s, ↓bnJ_s, ↓bnR_s, rt_e, rt_0, rt_bz, sv_s, sv_o, ur_s, ur_e, ur_o, bz_T, bz_F, nat_eqF, Nat.reduceAdd, ↓q_Reader_readSum, ↓gd_424 F, il_0, il_1, il_7, il_20, ↓g_sd, e1]
  rw [st]
  rcases out with ⟨j, c1, g, M, o1, o2, o3, o4, o5, o6⟩ | ⟨j, f, o1, o2⟩
  · exact y_sum_l F G S O hd J (sM s - j).toNat V1 j c1 g 0 M (by omega) o1 o2 o3 o4 o5 o6.up (by omega) (by have := o1.2.2.1; omega)
  · refine ⟨V1, ?_, Or.inr ⟨j, f, o1, o2.up⟩⟩
    obtain ⟨d1, d2, ⟨d3, d3a, d3b⟩, d4, d5⟩ := o1.1
    (rw [q_Reader_readSum_7]; simp (disch := first | decide | omega | (simp (disch := first | decide | omega) only [sv_s, sv_o, ur_s, ur_e, ur_o]; omega)) only [↓reduceIte, iv_add, iv_sub, iv_mul, iv_neg, iv_ltT, iv_ltF, iv_leT, iv_leF, iv_eqT, iv_eqF, iv_div, iv_mod, ↓bnI_s, ↓bnV_s, ↓bnJ_s, ↓bnR_s, rt_e, rt_0, rt_bz, sv_s, sv_o, ur_s, ur_e, ur_o, bz_T, bz_F, nat_eqF, Nat.reduceAdd, ↓gI_424_9 F, il_0, il_1, il_4, il_7, il_9, il_29, il_30, il_39, il_300, ↓g_lo, d3])
end
