/-! what a law's code means: pieces of the class's code -/
/-- the piece of code from p to p' puts the value M on the stack -/
def CE (cl : Int → Int) (p p' : Int) (M : (Int → Int) → Int → Int) : Prop := (0 ≤ p ∧ p ≤ p') ∧ ∀ (z : Zz) (V J : Vm) (t d n : Nat) (A : Int → Int) (k top i : Int), Fix z → Tab z t → t + 6 ≤ 418 → Kn V t A → (0 ≤ k ∧ k < A 0) → z.2.1 d = (1, n) → n ≤ 301 → 451 ≤ d → (∀ j, p ≤ j → j < p' → V d j = cl j) → p' ≤ n → 0 ≤ i → i + (p' - p) ≤ n → 0 ≤ top → top + (p' - p) ≤ 300 → ∃ m V', (0 ≤ m ∧ m ≤ p' - p) ∧ hd9 d t k top p i (em V J z) = hd9 d t k (top + 1) p' (i + m) (em V' J z) ∧ (∀ a, a ≠ 418 → V' a = V a) ∧ V' 418 top = M A k ∧ ∀ j, j < top → V' 418 j = V 418 j
/-- all values are within the bounds -/
def MB (M : (Int → Int) → Int → Int) : Prop := ∀ (V : Vm) (t : Nat) (A : Int → Int) (k : Int), Kn V t A → (0 ≤ k ∧ k < A 0) → Bd (M A k)
/-- all values are 0 or 1 -/
def M01 (M : (Int → Int) → Int → Int) : Prop := ∀ (V : Vm) (t : Nat) (A : Int → Int) (k : Int), Kn V t A → (0 ≤ k ∧ k < A 0) → M A k = 0 ∨ M A k = 1
section
variable {cl cl' : Int → Int} {p p1 p2 p3 q : Int} {M M1 M2 C : (Int → Int) → Int → Int}
theorem CE.ext (h : CE cl p p1 M) (e : ∀ j, p ≤ j → j < p1 → cl' j = cl j) : CE cl' p p1 M :=
  ⟨h.1, fun z V J t d n A k top i F T ht hK hk sd hn hd hc => h.2 z V J t d n A k top i F T ht hK hk sd hn hd (fun j j0 j1 => (hc j j0 j1).trans (e j j0 j1))⟩
theorem CE_num (hp : 0 ≤ p) {v : Int} (hv : 0 ≤ v ∧ v ≤ 9999) (e : cl p = 38 + 64 * v) : CE cl p (p + 1) (fun _ _ => v) := by
  refine ⟨by omega, fun z V J t d n A k top i F T ht hK hk sd hn hd hc hpn i0 hi t0 htop => ?_⟩
  have w := (hc p (by omega) (by omega)).trans e
  refine ⟨1, _, by omega, c_num F sd hn (by omega) (by omega) (by omega) w (by omega) (by omega) rfl, fun a ha => by simp (disch := first | decide | omega | (simp (disch := first | decide | omega) only [sv_s, sv_o, ur_s, ur_e, ur_o]; omega)) only [↓reduceIte, iv_add, iv_sub, iv_mul, iv_neg, iv_ltT, iv_ltF, iv_leT, iv_leF, iv_eqT, iv_eqF, iv_div, iv_mod, ↓bnI_s, ↓bnV_s, ↓bnJ_s, ↓bnR_s, rt_e, rt_0, rt_bz, sv_s, sv_o, ur_s, ur_e, ur_o, bz_T, bz_F, nat_eqF, Nat.reduceAdd], ?_, fun j hj => by simp (disch := first | decide | omega | (simp (disch := first | decide | omega) only [sv_s, sv_o, ur_s, ur_e, ur_o]; omega)) only [↓reduceIte, iv_add, iv_sub, iv_mul, iv_neg, iv_ltT, iv_ltF, iv_leT, iv_leF, iv_eqT, iv_eqF, iv_div, iv_mod, ↓bnI_s, ↓bnV_s, ↓bnJ_s, ↓bnR_s, rt_e, rt_0, rt_bz, sv_s, sv_o, ur_s, ur_e, ur_o, bz_T, bz_F, nat_eqF, Nat.reduceAdd]⟩
  rw [sv_s, ur_s]
  show (38 + 64 * v) / 64 = v
  omega
theorem CE_name (hp : 0 ≤ p) {c : Int} (hc : c = 3 ∨ (10 ≤ c ∧ c ≤ 15)) (e : cl p = c) : CE cl p (p + 1) (fun A k => nmV A k c) := by
  refine ⟨by omega, fun z V J t d n A k top i F T ht hK hk sd hn hd hcl hpn i0 hi t0 htop => ?_⟩
  have w := (hcl p (by omega) (by omega)).trans e
  refine ⟨1, _, by omega, c_name F T hK hk sd hn (by omega) (by omega) (by omega) w (by omega) (by omega) hc, fun a ha => by simp (disch := first | decide | omega | (simp (disch := first | decide | omega) only [sv_s, sv_o, ur_s, ur_e, ur_o]; omega)) only [↓reduceIte, iv_add, iv_sub, iv_mul, iv_neg, iv_ltT, iv_ltF, iv_leT, iv_leF, iv_eqT, iv_eqF, iv_div, iv_mod, ↓bnI_s, ↓bnV_s, ↓bnJ_s, ↓bnR_s, rt_e, rt_0, rt_bz, sv_s, sv_o, ur_s, ur_e, ur_o, bz_T, bz_F, nat_eqF, Nat.reduceAdd], by simp (disch := first | decide | omega | (simp (disch := first | decide | omega) only [sv_s, sv_o, ur_s, ur_e, ur_o]; omega)) only [↓reduceIte, iv_add, iv_sub, iv_mul, iv_neg, iv_ltT, iv_ltF, iv_leT, iv_leF, iv_eqT, iv_eqF, iv_div, iv_mod, ↓bnI_s, ↓bnV_s, ↓bnJ_s, ↓bnR_s, rt_e, rt_0, rt_bz, sv_s, sv_o, ur_s, ur_e, ur_o, bz_T, bz_F, nat_eqF, Nat.reduceAdd], fun j hj => by simp (disch := first | decide | omega | (simp (disch := first | decide | omega) only [sv_s, sv_o, ur_s, ur_e, ur_o]; omega)) only [↓reduceIte, iv_add, iv_sub, iv_mul, iv_neg, iv_ltT, iv_ltF, iv_leT, iv_leF, iv_eqT, iv_eqF, iv_div, iv_mod, ↓bnI_s, ↓bnV_s, ↓bnJ_s, ↓bnR_s, rt_e, rt_0, rt_bz, sv_s, sv_o, ur_s, ur_e, ur_o, bz_T, bz_F, nat_eqF, Nat.reduceAdd]⟩
theorem CE_one (h : CE cl p p1 M) (b : MB M) {c : Int} (hc : c = 16 ∨ c = 17 ∨ c = 24 ∨ c = 41) (e : cl p1 = c) : CE cl p (p1 + 1) (fun A k => onV A c (M A k)) := by
  have h0 := h.1
  refine ⟨by omega, fun z V J t d n A k top i F T ht hK hk sd hn hd hcl hpn i0 hi t0 htop => ?_⟩
  obtain ⟨m, V1, m0, a1, a2, a3, a4⟩ := h.2 z V J t d n A k top i F T ht hK hk sd hn hd (fun j j0 j1 => hcl j j0 (by omega)) (by omega) i0 (by omega) t0 (by omega)
  have w : V1 d p1 = c := by rw [a2 d (by omega)]; exact (hcl p1 (by omega) (by omega)).trans e
  have hK1 := Kn_same hK a2 ht
  have bx := b V t A k hK hk
  refine ⟨m + 1, _, by omega, a1.trans ((c_one F T hK1 sd hn (by omega) (by omega) (by omega) a3 bx w (by omega) (by omega) hc).trans (by rw [Int.add_assoc])), fun a ha => by simp (disch := first | decide | omega | (simp (disch := first | decide | omega) only [sv_s, sv_o, ur_s, ur_e, ur_o]; omega)) only [↓reduceIte, iv_add, iv_sub, iv_mul, iv_neg, iv_ltT, iv_ltF, iv_leT, iv_leF, iv_eqT, iv_eqF, iv_div, iv_mod, ↓bnI_s, ↓bnV_s, ↓bnJ_s, ↓bnR_s, rt_e, rt_0, rt_bz, sv_s, sv_o, ur_s, ur_e, ur_o, bz_T, bz_F, nat_eqF, Nat.reduceAdd, a2 a ha], by simp (disch := first | decide | omega | (simp (disch := first | decide | omega) only [sv_s, sv_o, ur_s, ur_e, ur_o]; omega)) only [↓reduceIte, iv_add, iv_sub, iv_mul, iv_neg, iv_ltT, iv_ltF, iv_leT, iv_leF, iv_eqT, iv_eqF, iv_div, iv_mod, ↓bnI_s, ↓bnV_s, ↓bnJ_s, ↓bnR_s, rt_e, rt_0, rt_bz, sv_s, sv_o, ur_s, ur_e, ur_o, bz_T, bz_F, nat_eqF, Nat.reduceAdd], fun j hj => by simp (disch := first | decide | omega | (simp (disch := first | decide | omega) only [sv_s, sv_o, ur_s, ur_e, ur_o]; omega)) only [↓reduceIte, iv_add, iv_sub, iv_mul, iv_neg, iv_ltT, iv_ltF, iv_leT, iv_leF, iv_eqT, iv_eqF, iv_div, iv_mod, ↓bnI_s, ↓bnV_s, ↓bnJ_s, ↓bnR_s, rt_e, rt_0, rt_bz, sv_s, sv_o, ur_s, ur_e, ur_o, bz_T, bz_F, nat_eqF, Nat.reduceAdd, a4 j hj]⟩
theorem CE_op (h1 : CE cl p p1 M1) (h2 : CE cl p1 p2 M2) {c : Int} (hc : c = 22 ∨ c = 23 ∨ (25 ≤ c ∧ c ≤ 32) ∨ c = 36 ∨ c = 37) (e : cl p2 = c) (f : Int → Int → Int) (hf : ∀ (V : Vm) (t : Nat) (A : Int → Int) (k : Int) (h : Mem), Kn V t A → (0 ≤ k ∧ k < A 0) → cA m_Asker_ofTwo [.int (iv c), .int (iv (M1 A k)), .int (iv (M2 A k))] h = some (.int (iv (f (M1 A k) (M2 A k))), h)) (h12 : p < p1 ∧ p1 < p2) : CE cl p (p2 + 1) (fun A k => f (M1 A k) (M2 A k)) := by
  have h10 := h1.1
  have h20 := h2.1
  refine ⟨by omega, fun z V J t d n A k top i F T ht hK hk sd hn hd hcl hpn i0 hi t0 htop => ?_⟩
  obtain ⟨m1, V1, m10, a1, a2, a3, a4⟩ := h1.2 z V J t d n A k top i F T ht hK hk sd hn hd (fun j j0 j1 => hcl j j0 (by omega)) (by omega) i0 (by omega) t0 (by omega)
  have hK1 := Kn_same hK a2 ht
  obtain ⟨m2, V2, m20, b1, b2, b3, b4⟩ := h2.2 z V1 J t d n A k (top + 1) (i + m1) F T ht hK1 hk sd hn hd (fun j j0 j1 => by rw [a2 d (by omega)]; exact hcl j (by omega) (by omega)) (by omega) (by omega) (by omega) (by omega) (by omega)
  have w : V2 d p2 = c := by rw [b2 d (by omega), a2 d (by omega)]; exact (hcl p2 (by omega) (by omega)).trans e
  have x : V2 418 top = M1 A k := (b4 top (by omega)).trans a3
  have hq : 0 ≤ c ∧ c < 64 := by omega
  refine ⟨m1 + m2 + 1, sv V2 418 top (f (M1 A k) (M2 A k)), by omega, a1.trans (b1.trans ((c_two F sd hn (by omega) (by omega) (by omega) x b3 w (by omega) (by omega) hc (hf V t A k _ hK hk)).trans ?_)), fun a ha => by simp (disch := first | decide | omega | (simp (disch := first | decide | omega) only [sv_s, sv_o, ur_s, ur_e, ur_o]; omega)) only [↓reduceIte, iv_add, iv_sub, iv_mul, iv_neg, iv_ltT, iv_ltF, iv_leT, iv_leF, iv_eqT, iv_eqF, iv_div, iv_mod, ↓bnI_s, ↓bnV_s, ↓bnJ_s, ↓bnR_s, rt_e, rt_0, rt_bz, sv_s, sv_o, ur_s, ur_e, ur_o, bz_T, bz_F, nat_eqF, Nat.reduceAdd, b2 a ha, a2 a ha], by simp (disch := first | decide | omega | (simp (disch := first | decide | omega) only [sv_s, sv_o, ur_s, ur_e, ur_o]; omega)) only [↓reduceIte, iv_add, iv_sub, iv_mul, iv_neg, iv_ltT, iv_ltF, iv_leT, iv_leF, iv_eqT, iv_eqF, iv_div, iv_mod, ↓bnI_s, ↓bnV_s, ↓bnJ_s, ↓bnR_s, rt_e, rt_0, rt_bz, sv_s, sv_o, ur_s, ur_e, ur_o, bz_T, bz_F, nat_eqF, Nat.reduceAdd], fun j hj => ?_⟩
  · rw [show i + m1 + m2 + 1 = i + (m1 + m2 + 1) by omega]
  · simp (disch := first | decide | omega | (simp (disch := first | decide | omega) only [sv_s, sv_o, ur_s, ur_e, ur_o]; omega)) only [↓reduceIte, iv_add, iv_sub, iv_mul, iv_neg, iv_ltT, iv_ltF, iv_leT, iv_leF, iv_eqT, iv_eqF, iv_div, iv_mod, ↓bnI_s, ↓bnV_s, ↓bnJ_s, ↓bnR_s, rt_e, rt_0, rt_bz, sv_s, sv_o, ur_s, ur_e, ur_o, bz_T, bz_F, nat_eqF, Nat.reduceAdd, b4 j (by omega), a4 j hj]
theorem CE_if (hC : CE cl p p1 C) (bC : M01 C) (e1 : cl p1 = 19 + 64 * (p2 + 1)) (h1 : CE cl (p1 + 1) p2 M1) (e2 : cl p2 = 20 + 64 * p3) (h2 : CE cl (p2 + 1) p3 M2) (hlt : p < p1) (h3 : p3 ≤ 301) : CE cl p p3 (fun A k => if C A k = 0 then M2 A k else M1 A k) := by
  have hC0 := hC.1
  have h10 := h1.1
  have h20 := h2.1
  refine ⟨by omega, fun z V J t d n A k top i F T ht hK hk sd hn hd hcl hpn i0 hi t0 htop => ?_⟩
  obtain ⟨m1, V1, m10, a1, a2, a3, a4⟩ := hC.2 z V J t d n A k top i F T ht hK hk sd hn hd (fun j j0 j1 => hcl j j0 (by omega)) (by omega) i0 (by omega) t0 (by omega)
  have hK1 := Kn_same hK a2 ht
  have cell : ∀ j, p ≤ j → j < p3 → V1 d j = cl j := fun j j0 j1 => by rw [a2 d (by omega)]; exact hcl j j0 j1
  have w1 := (cell p1 (by omega) (by omega)).trans e1
  rcases bC V t A k hK hk with q | q
  · rw [q] at a3
    have st := c_then0 (J := J) (t := t) (k := k) F sd hn (p := p1) (i := i + m1) (by omega) (by omega) (by omega) a3 w1 (by omega) (by omega) (q := p2 + 1) (by omega)
    obtain ⟨m2, V2, m20, b1, b2, b3, b4⟩ := h2.2 z V1 J t d n A k top (i + m1 + 1) F T ht hK1 hk sd hn hd (fun j j0 j1 => cell j (by omega) j1) (by omega) (by omega) (by omega) (by omega) (by omega)
    refine ⟨m1 + 1 + m2, V2, by omega, a1.trans (st.trans (b1.trans ?_)), fun a ha => (b2 a ha).trans (a2 a ha), ?_, fun j hj => (b4 j hj).trans (a4 j hj)⟩
    · rw [show i + m1 + 1 + m2 = i + (m1 + 1 + m2) by omega]
    · show _ = if C A k = 0 then M2 A k else M1 A k
      rw [b3, q, if_pos rfl]
  · rw [q] at a3
    have st := c_then1 (J := J) (t := t) (k := k) F sd hn (p := p1) (i := i + m1) (by omega) (by omega) (by omega) a3 w1 (by omega) (by omega)
    obtain ⟨m2, V2, m20, b1, b2, b3, b4⟩ := h1.2 z V1 J t d n A k top (i + m1 + 1) F T ht hK1 hk sd hn hd (fun j j0 j1 => cell j (by omega) (by omega)) (by omega) (by omega) (by omega) (by omega) (by omega)
    have w2 : V2 d p2 = 20 + 64 * p3 := by rw [b2 d (by omega)]; exact (cell p2 (by omega) (by omega)).trans e2
    have s2 := c_else (V := V2) (J := J) (t := t) (k := k) (top := top + 1) F sd hn (p := p2) (i := i + m1 + 1 + m2) (by omega) (by omega) w2 (by omega) (by omega) (q := p3) (by omega)
    refine ⟨m1 + 1 + m2 + 1, V2, by omega, a1.trans (st.trans (b1.trans (s2.trans ?_))), fun a ha => (b2 a ha).trans (a2 a ha), ?_, fun j hj => (b4 j hj).trans (a4 j hj)⟩
    · rw [show i + m1 + 1 + m2 + 1 = i + (m1 + 1 + m2 + 1) by omega]
    · show _ = if C A k = 0 then M2 A k else M1 A k
      rw [b3, q, if_neg (by decide)]
/-- the whole of it: what the class says -/
theorem CE.run (h : CE cl p p1 M) {z : Zz} {V J : Vm} {t d n : Nat} {A : Int → Int} {k w : Int} (F : Fix z) (T : Tab z t) (ht : t + 6 ≤ 418) (hK : Kn V t A) (hk : 0 ≤ k ∧ k < A 0) (sd : z.2.1 d = (1, n)) (hn : n ≤ 300) (hd : 451 ≤ d) (hcl : ∀ j, p ≤ j → j < p1 → V d j = cl j) (hp : p1 < n) (hw : V d p1 = w) (h35 : w = 35) : ∃ V', cA m_Asker_run [.ref 417, .ref d, .int (iv p), .ref t, .int (iv k)] (em V J z) = some (.int (iv (M A k)), em V' J z) ∧ ∀ a, a ≠ 418 → V' a = V a := by
  have h0 := h.1
  obtain ⟨m, V1, m0, a1, a2, a3, a4⟩ := h.2 z V J t d n A k 0 0 F T ht hK hk sd (by omega) hd hcl (by omega) (by omega) (by omega) (by omega) (by omega)
  have st := c_stop (w := w) (V := V1) (J := J) (t := t) (k := k) (top := 0 + 1) F sd (by omega) (p := p1) (i := 0 + m) (by omega) (by omega) (by rw [a2 d (by omega)]; exact hw) (by omega) (by omega)
  rw [a3] at st
  refine ⟨V1, ?_, a2⟩
  rw [q_Asker_run, gd_417 F, il_0]
  exact a1.trans st
end
