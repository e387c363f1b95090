/-! THE READING: what is asked -/
def StQ (s : Sm) (l j : Int) : Prop := StA s 5 j ∧ (l ≤ 2 → sK s j ≠ 23) ∧ (l ≤ 1 → sK s j ≠ 22)
def OutQ (zm : Zz) (s : Sm) (V V' : Vm) (l d i c : Int) : Prop := (∃ j c' g M, OkC V V' s i c j c' ∧ (0 < g ∧ g ≤ j - i) ∧ CE (V' 426) c c' M ∧ M01 M ∧ StQ s l j ∧ MoQ zm s l i j d g M) ∨ ∃ j f, NoC V V' s i j f ∧ MnQ zm s l i j f d
def SpQ (z zm : Zz) (s : Sm) (me : Nat) (l d : Int) : Prop := ∀ V J i c, Cp V s i c → (0 ≤ c ∧ c ≤ i ∧ i ≤ sM s) → ∃ V', cA me [.ref 424, .int (iv d)] (em V J z) = some (.null, em V' J z) ∧ OutQ zm s V V' l d i c
theorem M01.mb {M : (Int → Int) → Int → Int} (h : M01 M) : MB M := fun V t A k hK hk => by
  have := h V t A k hK hk
  unfold Bd
  omega
theorem asV_01 {k : Int} {M1 M2 : (Int → Int) → Int → Int} : M01 (fun A q => asV k (M1 A q) (M2 A q)) := fun V t A q _ _ => asV_b
theorem not_01 {M : (Int → Int) → Int → Int} : M01 (fun A q => onV A 24 (M A q)) := fun V t A q _ _ => by
  show onV A 24 (M A q) = 0 ∨ onV A 24 (M A q) = 1
  unfold onV
  rw [if_pos rfl]
  split
  · exact Or.inr rfl
  · exact Or.inl rfl
section
variable {V V1 V2 V3 J : Vm} {z zm : Zz} {s : Sm} {l i c c1 c2 j j2 d f x : Int} {M1 M2 : (Int → Int) → Int → Int}
theorem ask_f {w : Int} (hw : (25 ≤ w ∧ w ≤ 28) ∨ w = 36 ∨ w = 37) (B1 : MB M1) (B2 : MB M2) : ∀ (V : Vm) (t : Nat) (A : Int → Int) (k : Int) (h : Mem), Kn V t A → (0 ≤ k ∧ k < A 0) → cA m_Asker_ofTwo [.int (iv w), .int (iv (M1 A k)), .int (iv (M2 A k))] h = some (.int (iv (asV w (M1 A k) (M2 A k))), h) := fun V t A k h hK hk => y_asked (B1 V t A k hK hk) (B2 V t A k hK hk) hw
theorem join_f {w : Int} (hw : w = 22 ∨ w = 23) (B1 : M01 M1) (B2 : M01 M2) : ∀ (V : Vm) (t : Nat) (A : Int → Int) (k : Int) (h : Mem), Kn V t A → (0 ≤ k ∧ k < A 0) → cA m_Asker_ofTwo [.int (iv w), .int (iv (M1 A k)), .int (iv (M2 A k))] h = some (.int (iv (asV w (M1 A k) (M2 A k))), h) := fun V t A k h hK hk => y_joined2 (B1 V t A k hK hk) (B2 V t A k hK hk) hw
theorem out_c4 (h : OutQ zm s V V1 l d i c) (hc : 0 ≤ c ∧ c ≤ i) (n : sM s ≤ 300) : 0 ≤ V1 424 4 ∧ V1 424 4 ≤ 301 := by
  rcases h with ⟨j2, c2, g2, M2, o1, _⟩ | ⟨j2, f, o1, _⟩
  · have := o1.1.2.2.2.1; have := o1.2.2.1; have := o1.2.2.2.1; omega
  · exact o1.1.2.2.2.2
theorem outA_c4 (h : OutA zm s V V1 l d i c) (hc : 0 ≤ c ∧ c ≤ i) (n : sM s ≤ 300) : 0 ≤ V1 424 4 ∧ V1 424 4 ≤ 301 := by
  rcases h with ⟨j2, c2, g2, M2, o1, _⟩ | ⟨j2, f, o1, _⟩
  · have := o1.1.2.2.2.1; have := o1.2.2.1; have := o1.2.2.2.1; omega
  · exact o1.1.2.2.2.2
theorem Cp.fail (S : SO s) (P : Cp V s i c) (hc : 0 ≤ c ∧ c ≤ i ∧ i ≤ sM s) (hf : 1 ≤ f ∧ f ≤ 6) : NoC V (sv (sv V 424 9 f) 424 10 (sP s i)) s i i f := by
  obtain ⟨p1, p2, p3, p4, p5⟩ := P
  have S1 := S.1
  have fr : frR V (sv (sv V 424 9 f) 424 10 (sP s i)) := (frR.w (by omega)).tr (frR.w (by omega))
  refine ⟨⟨fr.cs p1, by simp (disch := first | decide | omega | (simp (disch := first | decide | omega) only [sv_s, sv_o, ur_s, ur_e, ur_o]; omega)) only [↓reduceIte, iv_add, iv_sub, iv_mul, iv_neg, iv_ltT, iv_ltF, iv_leT, iv_leF, iv_eqT, iv_eqF, iv_div, iv_mod, ↓bnI_s, ↓bnV_s, ↓bnJ_s, ↓bnR_s, rt_e, rt_0, rt_bz, sv_s, sv_o, ur_s, ur_e, ur_o, bz_T, bz_F, nat_eqF, Nat.reduceAdd, p2]; omega, ⟨by simp (disch := first | decide | omega | (simp (disch := first | decide | omega) only [sv_s, sv_o, ur_s, ur_e, ur_o]; omega)) only [↓reduceIte, iv_add, iv_sub, iv_mul, iv_neg, iv_ltT, iv_ltF, iv_leT, iv_leF, iv_eqT, iv_eqF, iv_div, iv_mod, ↓bnI_s, ↓bnV_s, ↓bnJ_s, ↓bnR_s, rt_e, rt_0, rt_bz, sv_s, sv_o, ur_s, ur_e, ur_o, bz_T, bz_F, nat_eqF, Nat.reduceAdd], hf⟩, by simp (disch := first | decide | omega | (simp (disch := first | decide | omega) only [sv_s, sv_o, ur_s, ur_e, ur_o]; omega)) only [↓reduceIte, iv_add, iv_sub, iv_mul, iv_neg, iv_ltT, iv_ltF, iv_leT, iv_leF, iv_eqT, iv_eqF, iv_div, iv_mod, ↓bnI_s, ↓bnV_s, ↓bnJ_s, ↓bnR_s, rt_e, rt_0, rt_bz, sv_s, sv_o, ur_s, ur_e, ur_o, bz_T, bz_F, nat_eqF, Nat.reduceAdd], by simp (disch := first | decide | omega | (simp (disch := first | decide | omega) only [sv_s, sv_o, ur_s, ur_e, ur_o]; omega)) only [↓reduceIte, iv_add, iv_sub, iv_mul, iv_neg, iv_ltT, iv_ltF, iv_leT, iv_leF, iv_eqT, iv_eqF, iv_div, iv_mod, ↓bnI_s, ↓bnV_s, ↓bnJ_s, ↓bnR_s, rt_e, rt_0, rt_bz, sv_s, sv_o, ur_s, ur_e, ur_o, bz_T, bz_F, nat_eqF, Nat.reduceAdd, p4]; omega⟩, fr, by omega⟩
theorem NoC.later (h1 : OkC V V1 s i c j c1) (h2 : NoC V1 V3 s j j2 f) : NoC V V3 s i j2 f := by
  obtain ⟨a1, a2, a3, a4, a5⟩ := h1
  obtain ⟨b1, b2, b3⟩ := h2
  exact ⟨b1, a2.tr b2, by omega⟩
theorem NoC.cem_ (h : NoC V V1 s i j f) {w : Int} : NoC V (cem V1 w) s i j f := ⟨h.1.cem_, h.2.1.tr frR.cem_, h.2.2⟩
/-- not, in the class -/
theorem OkC.not_ (P : Cp V s i c) (hc : 0 ≤ c ∧ c ≤ i) (h2 : OkC (sv V 424 8 (i + 1)) V3 s (i + 1) c j2 c2) (C2 : CE (V3 426) c c2 M2) (B : MB M2) (n : sM s ≤ 300) {w : Int} (hw : w = 16 ∨ w = 17 ∨ w = 24 ∨ w = 41) : OkC V (cem V3 (w + 64 * 0)) s i c j2 (c2 + 1) ∧ CE (cem V3 (w + 64 * 0) 426) c (c2 + 1) (fun A k => onV A w (M2 A k)) := by
  obtain ⟨b1, b2, b3, b4, b5⟩ := h2
  have fr : frR V V3 := (frR.w (by omega)).tr b2
  have e : cem V3 (w + 64 * 0) = sv (sv V3 426 c2 w) 424 4 (c2 + 1) := by rw [cem_in b1.2.2.2.1 (by omega), show w + 64 * 0 = w by omega]
  have o1 : ∀ q, q < c → V3 426 q = V 426 q := fun q hq => by rw [b5 q hq]; simp (disch := first | decide | omega | (simp (disch := first | decide | omega) only [sv_s, sv_o, ur_s, ur_e, ur_o]; omega)) only [↓reduceIte, iv_add, iv_sub, iv_mul, iv_neg, iv_ltT, iv_ltF, iv_leT, iv_leF, iv_eqT, iv_eqF, iv_div, iv_mod, ↓bnI_s, ↓bnV_s, ↓bnJ_s, ↓bnR_s, rt_e, rt_0, rt_bz, sv_s, sv_o, ur_s, ur_e, ur_o, bz_T, bz_F, nat_eqF, Nat.reduceAdd]
  rw [e]
  obtain ⟨p1, p2, p3, p4, p5⟩ := b1
  refine ⟨⟨⟨(frR.w6.tr (frR.w (by omega))).cs p1, by simp (disch := first | decide | omega | (simp (disch := first | decide | omega) only [sv_s, sv_o, ur_s, ur_e, ur_o]; omega)) only [↓reduceIte, iv_add, iv_sub, iv_mul, iv_neg, iv_ltT, iv_ltF, iv_leT, iv_leF, iv_eqT, iv_eqF, iv_div, iv_mod, ↓bnI_s, ↓bnV_s, ↓bnJ_s, ↓bnR_s, rt_e, rt_0, rt_bz, sv_s, sv_o, ur_s, ur_e, ur_o, bz_T, bz_F, nat_eqF, Nat.reduceAdd, p2], by simp (disch := first | decide | omega | (simp (disch := first | decide | omega) only [sv_s, sv_o, ur_s, ur_e, ur_o]; omega)) only [↓reduceIte, iv_add, iv_sub, iv_mul, iv_neg, iv_ltT, iv_ltF, iv_leT, iv_leF, iv_eqT, iv_eqF, iv_div, iv_mod, ↓bnI_s, ↓bnV_s, ↓bnJ_s, ↓bnR_s, rt_e, rt_0, rt_bz, sv_s, sv_o, ur_s, ur_e, ur_o, bz_T, bz_F, nat_eqF, Nat.reduceAdd, p3], by simp (disch := first | decide | omega | (simp (disch := first | decide | omega) only [sv_s, sv_o, ur_s, ur_e, ur_o]; omega)) only [↓reduceIte, iv_add, iv_sub, iv_mul, iv_neg, iv_ltT, iv_ltF, iv_leT, iv_leF, iv_eqT, iv_eqF, iv_div, iv_mod, ↓bnI_s, ↓bnV_s, ↓bnJ_s, ↓bnR_s, rt_e, rt_0, rt_bz, sv_s, sv_o, ur_s, ur_e, ur_o, bz_T, bz_F, nat_eqF, Nat.reduceAdd], by simp (disch := first | decide | omega | (simp (disch := first | decide | omega) only [sv_s, sv_o, ur_s, ur_e, ur_o]; omega)) only [↓reduceIte, iv_add, iv_sub, iv_mul, iv_neg, iv_ltT, iv_ltF, iv_leT, iv_leF, iv_eqT, iv_eqF, iv_div, iv_mod, ↓bnI_s, ↓bnV_s, ↓bnJ_s, ↓bnR_s, rt_e, rt_0, rt_bz, sv_s, sv_o, ur_s, ur_e, ur_o, bz_T, bz_F, nat_eqF, Nat.reduceAdd, p5, and_self]⟩, fr.tr (frR.w6.tr (frR.w (by omega))), by omega, by omega, fun q hq => by simp (disch := first | decide | omega | (simp (disch := first | decide | omega) only [sv_s, sv_o, ur_s, ur_e, ur_o]; omega)) only [↓reduceIte, iv_add, iv_sub, iv_mul, iv_neg, iv_ltT, iv_ltF, iv_leT, iv_leF, iv_eqT, iv_eqF, iv_div, iv_mod, ↓bnI_s, ↓bnV_s, ↓bnJ_s, ↓bnR_s, rt_e, rt_0, rt_bz, sv_s, sv_o, ur_s, ur_e, ur_o, bz_T, bz_F, nat_eqF, Nat.reduceAdd, o1 q (by omega)]⟩, ?_⟩
  have x2 : CE (sv (sv V3 426 c2 w) 424 4 (c2 + 1) 426) c c2 M2 := C2.ext (fun q q0 q1 => by simp (disch := first | decide | omega | (simp (disch := first | decide | omega) only [sv_s, sv_o, ur_s, ur_e, ur_o]; omega)) only [↓reduceIte, iv_add, iv_sub, iv_mul, iv_neg, iv_ltT, iv_ltF, iv_leT, iv_leF, iv_eqT, iv_eqF, iv_div, iv_mod, ↓bnI_s, ↓bnV_s, ↓bnJ_s, ↓bnR_s, rt_e, rt_0, rt_bz, sv_s, sv_o, ur_s, ur_e, ur_o, bz_T, bz_F, nat_eqF, Nat.reduceAdd])
  exact CE_one x2 B hw (by simp (disch := first | decide | omega | (simp (disch := first | decide | omega) only [sv_s, sv_o, ur_s, ur_e, ur_o]; omega)) only [↓reduceIte, iv_add, iv_sub, iv_mul, iv_neg, iv_ltT, iv_ltF, iv_leT, iv_leF, iv_eqT, iv_eqF, iv_div, iv_mod, ↓bnI_s, ↓bnV_s, ↓bnJ_s, ↓bnR_s, rt_e, rt_0, rt_bz, sv_s, sv_o, ur_s, ur_e, ur_o, bz_T, bz_F, nat_eqF, Nat.reduceAdd])
theorem y_ask (F : Fix z) (G : Fix zm) (S : SO s) (O : SpA z zm s m_Reader_readSum 5 d) (A : d < 8 → SpQ z zm s m_Reader_readAsk 3 (d + 1)) (hd : 0 ≤ d ∧ d ≤ 8) : SpQ z zm s m_Reader_readAsk 3 d := by
  intro V J i c P hc
  have S1 := S.1
  have P0 := P
  obtain ⟨p1, p2, p3, p4, p5⟩ := P0
  have kd := y_kind (J := J) F S p1 (by omega)
  rw [p2] at kd
  have kr := (S.rg (j := i) (by omega) hc.2.2).2.2.1
  by_cases k24 : sK s i = 24
  · rw [k24] at kd
    have im : i < sM s := by
      by_cases w : i = sM s
      · have := (S.2.2.2 i (by omega) hc.2.2).2.2.mpr w
        omega
      · omega
    by_cases d8 : d = 8
    · have fl := y_fail0 (J := J) (f := 3) F S P (by omega)
      refine ⟨_, ?_, Or.inr ⟨i, 3, P.fail S hc (by decide), by rw [d8]; exact MnQ.deep G S k24 (by omega)⟩⟩
      subst d8
      (rw [q_Reader_readAsk]; simp (disch := first | decide | omega | (simp (disch := first | decide | omega) only [sv_s, sv_o, ur_s, ur_e, ur_o]; omega)) only [↓reduceIte, iv_add, iv_sub, iv_mul, iv_neg, iv_ltT, iv_ltF, iv_leT, iv_leF, iv_eqT, iv_eqF, iv_div, iv_mod, ↓bnI_s, ↓bnV_s, ↓bnJ_s, ↓bnR_s, rt_e, rt_0, rt_bz, sv_s, sv_o, ur_s, ur_e, ur_o, bz_T, bz_F, nat_eqF, Nat.reduceAdd, ↓gI_424_9 F, ↓gd_424 F, il_0, il_1, il_3, il_4, il_8, il_9, il_20, il_24, il_31, ↓g_lo, kd, p3, fl])
    · obtain ⟨V3, e3, out⟩ := A (by omega) (sv V 424 8 (i + 1)) J (i + 1) c P.next (by omega)
      have c3 := out_c4 out (by omega) (by omega)
      have ce := y_cemit (J := J) (x := 24) (y := 0) F c3
      refine ⟨cem V3 (24 + 64 * 0), ?_, ?_⟩
      · generalize cem V3 (24 + 64 * 0) = V4 at *
        (rw [q_Reader_readAsk]; simp (disch := first | decide | omega | (simp (disch := first | decide | omega) only [sv_s, sv_o, ur_s, ur_e, ur_o]; omega)) only [↓reduceIte, iv_add, iv_sub, iv_mul, iv_neg, iv_ltT, iv_ltF, iv_leT, iv_leF, iv_eqT, iv_eqF, iv_div, iv_mod, ↓bnI_s, ↓bnV_s, ↓bnJ_s, ↓bnR_s, rt_e, rt_0, rt_bz, sv_s, sv_o, ur_s, ur_e, ur_o, bz_T, bz_F, nat_eqF, Nat.reduceAdd, ↓gI_424_9 F, ↓gd_424 F, ↓gI_424_8 F, ↓pI_424_8 F, il_0, il_1, il_3, il_4, il_8, il_9, il_20, il_24, il_31, ↓q_Reader_readAsk_31, ↓g_lo, ↓g_up, kd, p3, p2, e3, ce])
      · rcases out with ⟨j2, c2, g2, M2, o1, o2, o3, o4, o5, o6⟩ | ⟨j2, f, o1, o2⟩
        · have q1 := o1.2.2.1
          obtain ⟨n1, n2⟩ := OkC.not_ P (by omega) o1 o3 o4.mb (by omega) (w := 24) (by omega)
          exact Or.inl ⟨j2, c2 + 1, g2 + 1, _, n1, by omega, n2, not_01, o5, o6.not_ G S k24 (by omega) (by omega) o2 o4⟩
        · refine Or.inr ⟨j2, f, NoC.cem_ ⟨o1.1, (frR.w (by omega)).tr o1.2.1, by have := o1.2.2; omega⟩, o2.not_ G S k24 (by omega) (by omega)⟩
  · have k24' : sK s i < 24 ∨ 24 < sK s i := by omega
    obtain ⟨V1, e1, out⟩ := O V J i c P hc
    have st : ∃ r : Rs, r = cA m_Reader_readAsk [.ref 424, .int (iv d)] (em V J z) := ⟨_, rfl⟩
    rcases out with ⟨j, c1, g1, M1, o1, o2, o3, o4, o5, o6⟩ | ⟨j, f, o1, o2⟩
    · have q1 := o1.2.2.1
      have q2 := o1.2.2.2.1
      have P1 := o1.1
      obtain ⟨r1, r2, r3, r4, r5⟩ := o1.1
      have kd1 := y_kind (J := J) F S r1 (by omega)
      rw [r2] at kd1
      have kr1 := (S.rg (j := j) (by omega) q1.2).2.2.1
      have ic := y_isComparison (k := sK s j) (h := em V1 J z) (by omega)
      by_cases cmp : (25 ≤ sK s j ∧ sK s j ≤ 28) ∨ sK s j = 36 ∨ sK s j = 37
      · rw [bz_T cmp] at ic
        have jm : j < sM s := by
          by_cases w : j = sM s
          · have := (S.2.2.2 j (by omega) q1.2).2.2.mpr w
            omega
          · omega
        have ex := y_expect1 (J := J) F S P1 (by omega) (k := sK s j) rfl
        obtain ⟨V3, e3, out2⟩ := O (sv V1 424 8 (j + 1)) J (j + 1) c1 P1.next (by omega)
        have c3 := outA_c4 out2 (by omega) (by omega)
        have ce := y_cemit (J := J) (x := sK s j) (y := 0) F c3
        refine ⟨cem V3 (sK s j + 64 * 0), ?_, ?_⟩
        · generalize cem V3 (sK s j + 64 * 0) = V4 at *
          generalize sK s i = ki at *
          generalize sK s j = kj at *
          (rw [q_Reader_readAsk]; simp (disch := first | decide | omega | (simp (disch := first | decide | omega) only [sv_s, sv_o, ur_s, ur_e, ur_o]; omega)) only [↓reduceIte, iv_add, iv_sub, iv_mul, iv_neg, iv_ltT, iv_ltF, iv_leT, iv_leF, iv_eqT, iv_eqF, iv_div, iv_mod, ↓bnI_s, ↓bnV_s, ↓bnJ_s, ↓bnR_s, rt_e, rt_0, rt_bz, sv_s, sv_o, ur_s, ur_e, ur_o, bz_T, bz_F, nat_eqF, Nat.reduceAdd, ↓gI_424_9 F, ↓gd_424 F, ↓gI_424_8 F, ↓pI_424_8 F, il_0, il_1, il_3, il_4, il_8, il_9, il_20, il_24, il_31, ↓q_Reader_readAsk_31, ↓g_lo, ↓g_sd, kd, p3, p2, e1, kd1, ic, ex, e3, ce])
        · rcases out2 with ⟨j2, c2, g2, M2, u1, u2, u3, u4, u5, u6⟩ | ⟨j2, f, u1, u2⟩
          · have q3 := u1.2.2.1
            obtain ⟨n1, n2⟩ := o1.op (by omega) o3 u1 u3 (by omega) (w := sK s j) (by omega) (ask_f cmp o4 u4)
            exact Or.inl ⟨j2, c2 + 1, g1 + g2 + 1, _, n1, by omega, n2, asV_01, ⟨u5, fun x => absurd x (by omega), fun x => absurd x (by omega)⟩, MoQ.cmp G S o6 u6 hd (by omega) o2 u2 k24 o5 cmp o4 u4⟩
          · exact Or.inr ⟨j2, f, NoC.op o1 u1, MnQ.cmp2 G S o6 u2 hd (by omega) o2 k24 o5 cmp⟩
      · rw [bz_F cmp] at ic
        have fl := y_fail0 (J := J) (f := 1) F S P1 (by omega)
        refine ⟨_, ?_, Or.inr ⟨j, 1, NoC.later o1 (P1.fail S (by omega) (by decide)), MnQ.cmp0 G S o6 hd (by omega) o2 k24 o5 cmp⟩⟩
        generalize sK s i = ki at *
        generalize sK s j = kj at *
        clear cmp
        (rw [q_Reader_readAsk]; simp (disch := first | decide | omega | (simp (disch := first | decide | omega) only [sv_s, sv_o, ur_s, ur_e, ur_o]; omega)) only [↓reduceIte, iv_add, iv_sub, iv_mul, iv_neg, iv_ltT, iv_ltF, iv_leT, iv_leF, iv_eqT, iv_eqF, iv_div, iv_mod, ↓bnI_s, ↓bnV_s, ↓bnJ_s, ↓bnR_s, rt_e, rt_0, rt_bz, sv_s, sv_o, ur_s, ur_e, ur_o, bz_T, bz_F, nat_eqF, Nat.reduceAdd, ↓gI_424_9 F, ↓gd_424 F, ↓gI_424_8 F, ↓pI_424_8 F, il_0, il_1, il_3, il_4, il_8, il_9, il_20, il_24, il_31, ↓q_Reader_readAsk_31, ↓g_lo, ↓g_sd, kd, p3, p2, e1, kd1, ic, fl])
    · have D := o1.1
      have kd1 := y_kind (J := J) F S D.1 D.2.1
      have kr1 := (S.rg D.2.1.1 D.2.1.2).2.2.1
      have ic := y_isComparison (k := sK s (V1 424 8)) (h := em V1 J z) (by omega)
      have mq : MnQ zm s 3 i j f d := MnQ.cmp1 o2 k24
      generalize sK s (V1 424 8) = kj at *
      by_cases cmp : (25 ≤ kj ∧ kj ≤ 28) ∨ kj = 36 ∨ kj = 37
      · rw [bz_T cmp] at ic
        have ex := y_expectd (J := J) F D (x := kj)
        have ds := dd_sum (J := J) F S D hd
        have ce := y_cemit (J := J) (x := kj) (y := 0) F D.2.2.2.2
        refine ⟨cem V1 (kj + 64 * 0), ?_, Or.inr ⟨j, f, o1.cem_, mq⟩⟩
        generalize cem V1 (kj + 64 * 0) = V4 at *
        generalize sK s i = ki at *
        (rw [q_Reader_readAsk]; simp (disch := first | decide | omega | (simp (disch := first | decide | omega) only [sv_s, sv_o, ur_s, ur_e, ur_o]; omega)) only [↓reduceIte, iv_add, iv_sub, iv_mul, iv_neg, iv_ltT, iv_ltF, iv_leT, iv_leF, iv_eqT, iv_eqF, iv_div, iv_mod, ↓bnI_s, ↓bnV_s, ↓bnJ_s, ↓bnR_s, rt_e, rt_0, rt_bz, sv_s, sv_o, ur_s, ur_e, ur_o, bz_T, bz_F, nat_eqF, Nat.reduceAdd, ↓gI_424_9 F, ↓gd_424 F, ↓gI_424_8 F, ↓pI_424_8 F, il_0, il_1, il_3, il_4, il_8, il_9, il_20, il_24, il_31, ↓q_Reader_readAsk_31, ↓g_lo, ↓g_sd, kd, p3, p2, e1, kd1, ic, ex, ds, ce])
      · rw [bz_F cmp] at ic
        have fl := y_faild (J := J) F D (x := 1)
        refine ⟨V1, ?_, Or.inr ⟨j, f, o1, mq⟩⟩
        generalize sK s i = ki at *
        clear cmp
        (rw [q_Reader_readAsk]; simp (disch := first | decide | omega | (simp (disch := first | decide | omega) only [sv_s, sv_o, ur_s, ur_e, ur_o]; omega)) only [↓reduceIte, iv_add, iv_sub, iv_mul, iv_neg, iv_ltT, iv_ltF, iv_leT, iv_leF, iv_eqT, iv_eqF, iv_div, iv_mod, ↓bnI_s, ↓bnV_s, ↓bnJ_s, ↓bnR_s, rt_e, rt_0, rt_bz, sv_s, sv_o, ur_s, ur_e, ur_o, bz_T, bz_F, nat_eqF, Nat.reduceAdd, ↓gI_424_9 F, ↓gd_424 F, ↓gI_424_8 F, ↓pI_424_8 F, il_0, il_1, il_3, il_4, il_8, il_9, il_20, il_24, il_31, ↓q_Reader_readAsk_31, ↓g_lo, ↓g_sd, kd, p3, p2, e1, kd1, ic, fl])
theorem y_bothR_l (F : Fix z) (G : Fix zm) (S : SO s) (O : SpQ z zm s m_Reader_readAsk 3 d) (hd : 0 ≤ d ∧ d ≤ 8) (J : Vm) : ∀ (m : Nat) (V1 : Vm) (j c1 g1 x : Int) (M1 : (Int → Int) → Int → Int), (0 ≤ c ∧ c ≤ i) → OkC V V1 s i c j c1 → (0 < g1 ∧ g1 ≤ j - i) → CE (V1 426) c c1 M1 → M01 M1 → StQ s 3 j → MoQ zm s 2 i j d g1 M1 → sM s - j ≤ m → (0 ≤ x ∧ x ≤ j) → ∃ V', rX (rkk m_Reader_readBoth [.ref 424, .int (iv d)]) m_Reader_readBoth 7 [.ref 424, .int (iv d), .int (iv x)] [] (em V1 J z) = some (.null, em V' J z) ∧ OutQ zm s V V' 2 d i c := by
  intro m
  induction m with
  | zero =>
    intro V1 j c1 g1 x M1 hc h1 hg C1 B1 sa o hm hx
    have a3 := h1.2.2.1
    obtain ⟨p1, p2, p3, p4, p5⟩ := h1.1
    have S1 := S.1
    have k40 : sK s j = 40 := (S.2.2.2 j (by omega) a3.2).2.2.mpr (by omega)
    have kd := y_kind (J := J) F S p1 (by omega)
    rw [p2, k40] at kd
    refine ⟨V1, ?_, Or.inl ⟨j, c1, g1, M1, h1, hg, C1, B1, ⟨sa.1, fun _ => by omega, fun _ => by omega⟩, o⟩⟩
    by_cases q : x < 300
    · (rw [q_Reader_readBoth_7]; simp (disch := first | decide | omega | (simp (disch := first | decide | omega) only [sv_s, sv_o, ur_s, ur_e, ur_o]; omega)) only [↓reduceIte, iv_add, iv_sub, iv_mul, iv_neg, iv_ltT, iv_ltF, iv_leT, iv_leF, iv_eqT, iv_eqF, iv_div, iv_mod, ↓bnI_s, ↓bnV_s, ↓bnJ_s, ↓bnR_s, rt_e, rt_0, rt_bz, sv_s, sv_o, ur_s, ur_e, ur_o, bz_T, bz_F, nat_eqF, Nat.reduceAdd, ↓gI_424_9 F, ↓gI_424_8 F, ↓pI_424_8 F, il_0, il_1, il_4, il_7, il_8, il_9, il_23, il_300, ↓g_lo, kd, p3])
    · (rw [q_Reader_readBoth_7]; simp (disch := first | decide | omega | (simp (disch := first | decide | omega) only [sv_s, sv_o, ur_s, ur_e, ur_o]; omega)) only [↓reduceIte, iv_add, iv_sub, iv_mul, iv_neg, iv_ltT, iv_ltF, iv_leT, iv_leF, iv_eqT, iv_eqF, iv_div, iv_mod, ↓bnI_s, ↓bnV_s, ↓bnJ_s, ↓bnR_s, rt_e, rt_0, rt_bz, sv_s, sv_o, ur_s, ur_e, ur_o, bz_T, bz_F, nat_eqF, Nat.reduceAdd, ↓gI_424_9 F, ↓gI_424_8 F, ↓pI_424_8 F, il_0, il_1, il_4, il_7, il_8, il_9, il_23, il_300])
  | succ m ih =>
    intro V1 j c1 g1 x M1 hc h1 hg C1 B1 sa o hm hx
    have a3 := h1.2.2.1
    have P := h1.1
    obtain ⟨p1, p2, p3, p4, p5⟩ := h1.1
    have S1 := S.1
    have kr := (S.rg (j := j) (by omega) a3.2).2.2.1
    have kd := y_kind (J := J) F S p1 (by omega)
    rw [p2] at kd
    by_cases k : sK s j = 23
    · have jm : j < sM s := by
        by_cases w : j = sM s
        · have := (S.2.2.2 j (by omega) a3.2).2.2.mpr w
          omega
        · omega
      obtain ⟨V3, e3, out⟩ := O (sv V1 424 8 (j + 1)) J (j + 1) c1 P.next (by have := h1.2.2.2.1; omega)
      have step : rX (rkk m_Reader_readBoth [.ref 424, .int (iv d)]) m_Reader_readBoth 7 [.ref 424, .int (iv d), .int (iv x)] [] (em V1 J z) = rX (rkk m_Reader_readBoth [.ref 424, .int (iv d)]) m_Reader_readBoth 7 [.ref 424, .int (iv d), .int (iv (x + 1))] [] (em (cem V3 (23 + 64 * 0)) J z) := by
        have c3 := out_c4 out (by have := h1.2.2.2.1; omega) (by omega)
        have ce := y_cemit (J := J) (x := 23) (y := 0) F c3
        generalize cem V3 (23 + 64 * 0) = V4 at *
        conv => lhs; rw [q_Reader_readBoth_7]
        rw [k] at kd
        simp (disch := first | decide | omega | (simp (disch := first | decide | omega) only [sv_s, sv_o, ur_s, ur_e, ur_o]; omega)) only [↓reduceIte, iv_add, iv_sub, iv_mul, iv_neg, iv_ltT, iv_ltF, iv_leT, iv_leF, iv_eqT, iv_eqF, iv_div, iv_mod, ↓bnI_s, ↓bnV_s, ↓bnJ_s, ↓bnR_s, rt_e, rt_0, rt_bz, sv_s, sv_o, ur_s, ur_e, ur_o, bz_T, bz_F, nat_eqF, Nat.reduceAdd, ↓gI_424_9 F, ↓gI_424_8 F, ↓pI_424_8 F, il_0, il_1, il_4, il_7, il_8, il_9, il_23, il_300, ↓g_lo, ↓g_sd, kd, p3, p2, e3, ce]
      rw [step]
      rcases out with ⟨j2, c2, g2, M2, o1, o2, o3, o4, o5, o6⟩ | ⟨j2, f, o1, o2⟩
      · have q1 := o1.2.2.1
        obtain ⟨n1, n2⟩ := h1.op hc C1 o1 o3 (by omega) (w := 23) (by omega) (join_f (by omega) B1 o4)
        have n3 := MoQ.step G S (l := 2) o o6 (by decide) hd (by omega) hg o2 (by rw [k]; rfl) B1 o4
        rw [k] at n3
        exact ih _ j2 (c2 + 1) (g1 + g2 + 1) (x + 1) _ hc n1 (by omega) n2 asV_01 o5 n3 (by omega) (by omega)
      · have n1 := NoC.op h1 o1 (w := 23 + 64 * 0)
        have n2 := MnQ.step G S (l := 2) o o2 (by decide) hd (by omega) hg (by rw [k]; rfl)
        refine ⟨_, ?_, Or.inr ⟨j2, f, n1, n2⟩⟩
        obtain ⟨d1, d2, ⟨d3, d3a, d3b⟩, d4, d5⟩ := n1.1
        generalize cem V3 (23 + 64 * 0) = V4 at *
        by_cases q : x + 1 < 300
        · (rw [q_Reader_readBoth_7]; simp (disch := first | decide | omega | (simp (disch := first | decide | omega) only [sv_s, sv_o, ur_s, ur_e, ur_o]; omega)) only [↓reduceIte, iv_add, iv_sub, iv_mul, iv_neg, iv_ltT, iv_ltF, iv_leT, iv_leF, iv_eqT, iv_eqF, iv_div, iv_mod, ↓bnI_s, ↓bnV_s, ↓bnJ_s, ↓bnR_s, rt_e, rt_0, rt_bz, sv_s, sv_o, ur_s, ur_e, ur_o, bz_T, bz_F, nat_eqF, Nat.reduceAdd, ↓gI_424_9 F, ↓gI_424_8 F, ↓pI_424_8 F, il_0, il_1, il_4, il_7, il_8, il_9, il_23, il_300, ↓g_lo, d3])
        · (rw [q_Reader_readBoth_7]; simp (disch := first | decide | omega | (simp (disch := first | decide | omega) only [sv_s, sv_o, ur_s, ur_e, ur_o]; omega)) only [↓reduceIte, iv_add, iv_sub, iv_mul, iv_neg, iv_ltT, iv_ltF, iv_leT, iv_leF, iv_eqT, iv_eqF, iv_div, iv_mod, ↓bnI_s, ↓bnV_s, ↓bnJ_s, ↓bnR_s, rt_e, rt_0, rt_bz, sv_s, sv_o, ur_s, ur_e, ur_o, bz_T, bz_F, nat_eqF, Nat.reduceAdd, ↓gI_424_9 F, ↓gI_424_8 F, ↓pI_424_8 F, il_0, il_1, il_4, il_7, il_8, il_9, il_23, il_300])
    · have k1 : sK s j < 23 ∨ 23 < sK s j := by omega
      refine ⟨V1, ?_, Or.inl ⟨j, c1, g1, M1, h1, hg, C1, B1, ⟨sa.1, fun _ => by omega, fun x => absurd x (by omega)⟩, o⟩⟩
      clear k sa
      generalize sK s j = kk at *
      by_cases q : x < 300
      · (rw [q_Reader_readBoth_7]; simp (disch := first | decide | omega | (simp (disch := first | decide | omega) only [sv_s, sv_o, ur_s, ur_e, ur_o]; omega)) only [↓reduceIte, iv_add, iv_sub, iv_mul, iv_neg, iv_ltT, iv_ltF, iv_leT, iv_leF, iv_eqT, iv_eqF, iv_div, iv_mod, ↓bnI_s, ↓bnV_s, ↓bnJ_s, ↓bnR_s, rt_e, rt_0, rt_bz, sv_s, sv_o, ur_s, ur_e, ur_o, bz_T, bz_F, nat_eqF, Nat.reduceAdd, ↓gI_424_9 F, ↓gI_424_8 F, ↓pI_424_8 F, il_0, il_1, il_4, il_7, il_8, il_9, il_23, il_300, ↓g_lo, kd, p3])
      · (rw [q_Reader_readBoth_7]; simp (disch := first | decide | omega | (simp (disch := first | decide | omega) only [sv_s, sv_o, ur_s, ur_e, ur_o]; omega)) only [↓reduceIte, iv_add, iv_sub, iv_mul, iv_neg, iv_ltT, iv_ltF, iv_leT, iv_leF, iv_eqT, iv_eqF, iv_div, iv_mod, ↓bnI_s, ↓bnV_s, ↓bnJ_s, ↓bnR_s, rt_e, rt_0, rt_bz, sv_s, sv_o, ur_s, ur_e, ur_o, bz_T, bz_F, nat_eqF, Nat.reduceAdd, ↓gI_424_9 F, ↓gI_424_8 F, ↓pI_424_8 F, il_0, il_1, il_4, il_7, il_8, il_9, il_23, il_300])
theorem y_bothR (F : Fix z) (G : Fix zm) (S : SO s) (O : SpQ z zm s m_Reader_readAsk 3 d) (hd : 0 ≤ d ∧ d ≤ 8) : SpQ z zm s m_Reader_readBoth 2 d := by
  intro V J i c P hc
  obtain ⟨V1, e1, out⟩ := O V J i c P hc
  have st : cA m_Reader_readBoth [.ref 424, .int (iv d)] (em V J z) = rX (rkk m_Reader_readBoth [.ref 424, .int (iv d)]) m_Reader_readBoth 7 [.ref 424, .int (iv d), .int (iv 0)] [] (em V1 J z) := by
    simp (disch := first | decide | omega | (simp (disch := first | decide | omega) only [sv_s, sv_o, ur_s, ur_e, ur_o]; omega)) only [↓reduceIte, iv_add, iv_sub, iv_mul, iv_neg, iv_ltT, iv_ltF, iv_leT, iv_leF, iv_eqT, iv_eqF, iv_div, iv_mod, ↓bnI_s, ↓bnV_s, ↓bnJ_s, ↓bnR_s, rt_e, rt_0, rt_bz, sv_s, sv_o, ur_s, ur_e, ur_o, bz_T, bz_F, nat_eqF, Nat.reduceAdd, ↓q_Reader_readBoth, ↓gd_424 F, il_0, il_1, il_7, il_20, ↓g_sd, e1]
  rw [st]
  rcases out with ⟨j, c1, g, M, o1, o2, o3, o4, o5, o6⟩ | ⟨j, f, o1, o2⟩
  · exact y_bothR_l F G S O hd J (sM s - j).toNat V1 j c1 g 0 M (by omega) o1 o2 o3 o4 o5 (o6.up (by decide)) (by omega) (by have := o1.2.2.1; omega)
  · refine ⟨V1, ?_, Or.inr ⟨j, f, o1, o2.up (by decide)⟩⟩
    obtain ⟨d1, d2, ⟨d3, d3a, d3b⟩, d4, d5⟩ := o1.1
    (rw [q_Reader_readBoth_7]; simp (disch := first | decide | omega | (simp (disch := first | decide | omega) only [sv_s, sv_o, ur_s, ur_e, ur_o]; omega)) only [↓reduceIte, iv_add, iv_sub, iv_mul, iv_neg, iv_ltT, iv_ltF, iv_leT, iv_leF, iv_eqT, iv_eqF, iv_div, iv_mod, ↓bnI_s, ↓bnV_s, ↓bnJ_s, ↓bnR_s, rt_e, rt_0, rt_bz, sv_s, sv_o, ur_s, ur_e, ur_o, bz_T, bz_F, nat_eqF, Nat.reduceAdd, ↓gI_424_9 F, ↓gI_424_8 F, ↓pI_424_8 F, il_0, il_1, il_4, il_7, il_8, il_9, il_23, il_300, ↓g_lo, d3])
theorem y_either_l (F : Fix z) (G : Fix zm) (S : SO s) (O : SpQ z zm s m_Reader_readBoth 2 d) (hd : 0 ≤ d ∧ d ≤ 8) (J : Vm) : ∀ (m : Nat) (V1 : Vm) (j c1 g1 x : Int) (M1 : (Int → Int) → Int → Int), (0 ≤ c ∧ c ≤ i) → OkC V V1 s i c j c1 → (0 < g1 ∧ g1 ≤ j - i) → CE (V1 426) c c1 M1 → M01 M1 → StQ s 2 j → MoQ zm s 1 i j d g1 M1 → sM s - j ≤ m → (0 ≤ x ∧ x ≤ j) → ∃ V', rX (rkk m_Reader_readEither [.ref 424, .int (iv d)]) m_Reader_readEither 7 [.ref 424, .int (iv d), .int (iv x)] [] (em V1 J z) = some (.null, em V' J z) ∧ OutQ zm s V V' 1 d i c := by
  intro m
  induction m with
  | zero =>
    intro V1 j c1 g1 x M1 hc h1 hg C1 B1 sa o hm hx
    have a3 := h1.2.2.1
    obtain ⟨p1, p2, p3, p4, p5⟩ := h1.1
    have S1 := S.1
    have k40 : sK s j = 40 := (S.2.2.2 j (by omega) a3.2).2.2.mpr (by omega)
    have kd := y_kind (J := J) F S p1 (by omega)
    rw [p2, k40] at kd
    refine ⟨V1, ?_, Or.inl ⟨j, c1, g1, M1, h1, hg, C1, B1, ⟨sa.1, fun _ => by omega, fun _ => by omega⟩, o⟩⟩
    by_cases q : x < 300
    · (rw [q_Reader_readEither_7]; simp (disch := first | decide | omega | (simp (disch := first | decide | omega) only [sv_s, sv_o, ur_s, ur_e, ur_o]; omega)) only [↓reduceIte, iv_add, iv_sub, iv_mul, iv_neg, iv_ltT, iv_ltF, iv_leT, iv_leF, iv_eqT, iv_eqF, iv_div, iv_mod, ↓bnI_s, ↓bnV_s, ↓bnJ_s, ↓bnR_s, rt_e, rt_0, rt_bz, sv_s, sv_o, ur_s, ur_e, ur_o, bz_T, bz_F, nat_eqF, Nat.reduceAdd, ↓gI_424_9 F, ↓gI_424_8 F, ↓pI_424_8 F, il_0, il_1, il_4, il_7, il_8, il_9, il_22, il_300, ↓g_lo, kd, p3])
    · (rw [q_Reader_readEither_7]; simp (disch := first | decide | omega | (simp (disch := first | decide | omega) only [sv_s, sv_o, ur_s, ur_e, ur_o]; omega)) only [↓reduceIte, iv_add, iv_sub, iv_mul, iv_neg, iv_ltT, iv_ltF, iv_leT, iv_leF, iv_eqT, iv_eqF, iv_div, iv_mod, ↓bnI_s, ↓bnV_s, ↓bnJ_s, ↓bnR_s, rt_e, rt_0, rt_bz, sv_s, sv_o, ur_s, ur_e, ur_o, bz_T, bz_F, nat_eqF, Nat.reduceAdd, ↓gI_424_9 F, ↓gI_424_8 F, ↓pI_424_8 F, il_0, il_1, il_4, il_7, il_8, il_9, il_22, il_300])
  | succ m ih =>
    intro V1 j c1 g1 x M1 hc h1 hg C1 B1 sa o hm hx
    have a3 := h1.2.2.1
    have P := h1.1
    obtain ⟨p1, p2, p3, p4, p5⟩ := h1.1
    have S1 := S.1
    have kr := (S.rg (j := j) (by omega) a3.2).2.2.1
    have kd := y_kind (J := J) F S p1 (by omega)
    rw [p2] at kd
    by_cases k : sK s j = 22
    · have jm : j < sM s := by
        by_cases w : j = sM s
        · have := (S.2.2.2 j (by omega) a3.2).2.2.mpr w
          omega
        · omega
      obtain ⟨V3, e3, out⟩ := O (sv V1 424 8 (j + 1)) J (j + 1) c1 P.next (by have := h1.2.2.2.1; omega)
      have step : rX (rkk m_Reader_readEither [.ref 424, .int (iv d)]) m_Reader_readEither 7 [.ref 424, .int (iv d), .int (iv x)] [] (em V1 J z) = rX (rkk m_Reader_readEither [.ref 424, .int (iv d)]) m_Reader_readEither 7 [.ref 424, .int (iv d), .int (iv (x + 1))] [] (em (cem V3 (22 + 64 * 0)) J z) := by
        have c3 := out_c4 out (by have := h1.2.2.2.1; omega) (by omega)
        have ce := y_cemit (J := J) (x := 22) (y := 0) F c3
        generalize cem V3 (22 + 64 * 0) = V4 at *
        conv => lhs; rw [q_Reader_readEither_7]
        rw [k] at kd
        simp (disch := first | decide | omega | (simp (disch := first | decide | omega) only [sv_s, sv_o, ur_s, ur_e, ur_o]; omega)) only [↓reduceIte, iv_add, iv_sub, iv_mul, iv_neg, iv_ltT, iv_ltF, iv_leT, iv_leF, iv_eqT, iv_eqF, iv_div, iv_mod, ↓bnI_s, ↓bnV_s, ↓bnJ_s, ↓bnR_s, rt_e, rt_0, rt_bz, sv_s, sv_o, ur_s, ur_e, ur_o, bz_T, bz_F, nat_eqF, Nat.reduceAdd, ↓gI_424_9 F, ↓gI_424_8 F, ↓pI_424_8 F, il_0, il_1, il_4, il_7, il_8, il_9, il_22, il_300, ↓g_lo, ↓g_sd, kd, p3, p2, e3, ce]
      rw [step]
      rcases out with ⟨j2, c2, g2, M2, o1, o2, o3, o4, o5, o6⟩ | ⟨j2, f, o1, o2⟩
      · have q1 := o1.2.2.1
        obtain ⟨n1, n2⟩ := h1.op hc C1 o1 o3 (by omega) (w := 22) (by omega) (join_f (by omega) B1 o4)
        have n3 := MoQ.step G S (l := 1) o o6 (by decide) hd (by omega) hg o2 (by rw [k]; rfl) B1 o4
        rw [k] at n3
        exact ih _ j2 (c2 + 1) (g1 + g2 + 1) (x + 1) _ hc n1 (by omega) n2 asV_01 o5 n3 (by omega) (by omega)
      · have n1 := NoC.op h1 o1 (w := 22 + 64 * 0)
        have n2 := MnQ.step G S (l := 1) o o2 (by decide) hd (by omega) hg (by rw [k]; rfl)
        refine ⟨_, ?_, Or.inr ⟨j2, f, n1, n2⟩⟩
        obtain ⟨d1, d2, ⟨d3, d3a, d3b⟩, d4, d5⟩ := n1.1
        generalize cem V3 (22 + 64 * 0) = V4 at *
        by_cases q : x + 1 < 300
        · (rw [q_Reader_readEither_7]; simp (disch := first | decide | omega | (simp (disch := first | decide | omega) only [sv_s, sv_o, ur_s, ur_e, ur_o]; omega)) only [↓reduceIte, iv_add, iv_sub, iv_mul, iv_neg, iv_ltT, iv_ltF, iv_leT, iv_leF, iv_eqT, iv_eqF, iv_div, iv_mod, ↓bnI_s, ↓bnV_s, ↓bnJ_s, ↓bnR_s, rt_e, rt_0, rt_bz, sv_s, sv_o, ur_s, ur_e, ur_o, bz_T, bz_F, nat_eqF, Nat.reduceAdd, ↓gI_424_9 F, ↓gI_424_8 F, ↓pI_424_8 F, il_0, il_1, il_4, il_7, il_8, il_9, il_22, il_300, ↓g_lo, d3])
        · (rw [q_Reader_readEither_7]; simp (disch := first | decide | omega | (simp (disch := first | decide | omega) only [sv_s, sv_o, ur_s, ur_e, ur_o]; omega)) only [↓reduceIte, iv_add, iv_sub, iv_mul, iv_neg, iv_ltT, iv_ltF, iv_leT, iv_leF, iv_eqT, iv_eqF, iv_div, iv_mod, ↓bnI_s, ↓bnV_s, ↓bnJ_s, ↓bnR_s, rt_e, rt_0, rt_bz, sv_s, sv_o, ur_s, ur_e, ur_o, bz_T, bz_F, nat_eqF, Nat.reduceAdd, ↓gI_424_9 F, ↓gI_424_8 F, ↓pI_424_8 F, il_0, il_1, il_4, il_7, il_8, il_9, il_22, il_300])
    · have k1 : sK s j < 22 ∨ 22 < sK s j := by omega
      refine ⟨V1, ?_, Or.inl ⟨j, c1, g1, M1, h1, hg, C1, B1, ⟨sa.1, fun _ => sa.2.1 (by decide), fun _ => by omega⟩, o⟩⟩
      clear k sa
      generalize sK s j = kk at *
      by_cases q : x < 300
      · (rw [q_Reader_readEither_7]; simp (disch := first | decide | omega | (simp (disch := first | decide | omega) only [sv_s, sv_o, ur_s, ur_e, ur_o]; omega)) only [↓reduceIte, iv_add, iv_sub, iv_mul, iv_neg, iv_ltT, iv_ltF, iv_leT, iv_leF, iv_eqT, iv_eqF, iv_div, iv_mod, ↓bnI_s, ↓bnV_s, ↓bnJ_s, ↓bnR_s, rt_e, rt_0, rt_bz, sv_s, sv_o, ur_s, ur_e, ur_o, bz_T, bz_F, nat_eqF, Nat.reduceAdd, ↓gI_424_9 F, ↓gI_424_8 F, ↓pI_424_8 F, il_0, il_1, il_4, il_7, il_8, il_9, il_22, il_300, ↓g_lo, kd, p3])
      · (rw [q_Reader_readEither_7]; simp (disch := first | decide | omega | (simp (disch := first | decide | omega) only [sv_s, sv_o, ur_s, ur_e, ur_o]; omega)) only [↓reduceIte, iv_add, iv_sub, iv_mul, iv_neg, iv_ltT, iv_ltF, iv_leT, iv_leF, iv_eqT, iv_eqF, iv_div, iv_mod, ↓bnI_s, ↓bnV_s, ↓bnJ_s, ↓bnR_s, rt_e, rt_0, rt_bz, sv_s, sv_o, ur_s, ur_e, ur_o, bz_T, bz_F, nat_eqF, Nat.reduceAdd, ↓gI_424_9 F, ↓gI_424_8 F, ↓pI_424_8 F, il_0, il_1, il_4, il_7, il_8, il_9, il_22, il_300])
theorem y_either (F : Fix z) (G : Fix zm) (S : SO s) (O : SpQ z zm s m_Reader_readBoth 2 d) (hd : 0 ≤ d ∧ d ≤ 8) : SpQ z zm s m_Reader_readEither 1 d := by
  intro V J i c P hc
  obtain ⟨V1, e1, out⟩ := O V J i c P hc
  have st : cA m_Reader_readEither [.ref 424, .int (iv d)] (em V J z) = rX (rkk m_Reader_readEither [.ref 424, .int (iv d)]) m_Reader_readEither 7 [.ref 424, .int (iv d), .int (iv 0)] [] (em V1 J z) := by
    simp (disch := first | decide | omega | (simp (disch := first | decide | omega) only [sv_s, sv_o, ur_s, ur_e, ur_o]; omega)) only [↓reduceIte, iv_add, iv_sub, iv_mul, iv_neg, iv_ltT, iv_ltF, iv_leT, iv_leF, iv_eqT, iv_eqF, iv_div, iv_mod, ↓bnI_s, ↓bnV_s, ↓bnJ_s, ↓bnR_s, rt_e, rt_0, rt_bz, sv_s, sv_o, ur_s, ur_e, ur_o, bz_T, bz_F, nat_eqF, Nat.reduceAdd, ↓q_Reader_readEither, ↓gd_424 F, il_0, il_1, il_7, il_20, ↓g_sd, e1]
  rw [st]
  rcases out with ⟨j, c1, g, M, o1, o2, o3, o4, o5, o6⟩ | ⟨j, f, o1, o2⟩
  · exact y_either_l F G S O hd J (sM s - j).toNat V1 j c1 g 0 M (by omega) o1 o2 o3 o4 o5 (o6.up (by decide)) (by omega) (by have := o1.2.2.1; omega)
  · refine ⟨V1, ?_, Or.inr ⟨j, f, o1, o2.up (by decide)⟩⟩
    obtain ⟨d1, d2, ⟨d3, d3a, d3b⟩, d4, d5⟩ := o1.1
    (rw [q_Reader_readEither_7]; simp (disch := first | decide | omega | (simp (disch := first | decide | omega) only [sv_s, sv_o, ur_s, ur_e, ur_o]; omega)) only [↓reduceIte, iv_add, iv_sub, iv_mul, iv_neg, iv_ltT, iv_ltF, iv_leT, iv_leF, iv_eqT, iv_eqF, iv_div, iv_mod, ↓bnI_s, ↓bnV_s, ↓bnJ_s, ↓bnR_s, rt_e, rt_0, rt_bz, sv_s, sv_o, ur_s, ur_e, ur_o, bz_T, bz_F, nat_eqF, Nat.reduceAdd, ↓gI_424_9 F, ↓gI_424_8 F, ↓pI_424_8 F, il_0, il_1, il_4, il_7, il_8, il_9, il_22, il_300, ↓g_lo, d3])
end
