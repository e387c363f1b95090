/-! a step saved shows a step kept -/
section
variable {V W V' J : Vm} {z : Zz} {A B A' : Int → Int}
theorem Kp_old {c : Int} (hc : 0 ≤ c ∧ c < 30) (h : Kp B A' c) {k : Int} (hk : (k < 165 ∧ k ≠ 3) ∨ 1425 ≤ k) : A' k = B k := by
  rw [h.2 k (by omega), if_neg (by omega)]
theorem Kp_snp {c i : Int} (hc : 0 ≤ c ∧ c < 30) (h : Kp B A' c) (hi : 0 ≤ i ∧ i < c) : ∀ k, (k = 0 ∨ (7 ≤ k ∧ k < 23) ∨ (1425 ≤ k ∧ k < 1450)) → snp A' i k = snp B i k := by
  intro k hk
  unfold snp
  rcases hk with rfl | hk | hk
  · rw [if_pos rfl, if_pos rfl, h.2 _ (by omega), if_neg (by omega)]
  · rw [if_neg (by omega), if_pos (by omega), if_neg (by omega), if_pos (by omega), h.2 _ (by omega), if_neg (by omega)]
  · rw [if_neg (by omega), if_neg (by omega), if_neg (by omega), if_neg (by omega), h.2 _ (by omega), if_neg (by omega)]
theorem Kp_new {c : Int} (hc : 0 ≤ c ∧ c < 30) (h : Kp B A' c) : ∀ k, (k = 0 ∨ (7 ≤ k ∧ k < 23) ∨ (1425 ≤ k ∧ k < 1450)) → snp A' c k = B k := by
  intro k hk
  unfold snp
  rcases hk with rfl | hk | hk
  · rw [if_pos rfl, h.2 _ (by omega), if_pos (by omega), if_pos rfl]
  · rw [if_neg (by omega), if_pos (by omega), h.2 _ (by omega), if_pos (by omega), if_neg (by omega), if_pos (by omega)]
    exact congrArg B (by omega)
  · rw [if_neg (by omega), if_neg (by omega), h.2 _ (by omega), if_pos (by omega), if_neg (by omega), if_neg (by omega)]
    exact congrArg B (by omega)
theorem Sh_snp {i : Int} (h : A 3 = 30 ∧ B 3 = 29 ∧ ∀ k, k ≠ 3 → B k = if 165 ≤ k ∧ k < 1383 then A (k + 42) else A k) (hi : 0 ≤ i ∧ i < 29) : ∀ k, (k = 0 ∨ (7 ≤ k ∧ k < 23) ∨ (1425 ≤ k ∧ k < 1450)) → snp B i k = snp A (i + 1) k := by
  intro k hk
  unfold snp
  rcases hk with rfl | hk | hk
  · rw [if_pos rfl, if_pos rfl, h.2.2 _ (by omega), if_pos (by omega)]
    exact congrArg A (by omega)
  · rw [if_neg (by omega), if_pos (by omega), if_neg (by omega), if_pos (by omega), h.2.2 _ (by omega), if_pos (by omega)]
    exact congrArg A (by omega)
  · rw [if_neg (by omega), if_neg (by omega), if_neg (by omega), if_neg (by omega), h.2.2 _ (by omega), if_pos (by omega)]
    exact congrArg A (by omega)
theorem new_Stq {c : Int} {s : Nat} (n : Kn V 10 A) (b : Bec V W s 10) (w : ∀ a, 30 ≤ a → V' a = W a) (h30 : 30 ≤ s) (hs : sta V' 9 c = s) (e : ∀ k, (k = 0 ∨ (7 ≤ k ∧ k < 23) ∨ (1425 ≤ k ∧ k < 1450)) → snp A' c k = A k) (ex : nxt A' c 0 = A 0) : Stq V' 9 A' c := by
  obtain ⟨n1, n2, n3, n4⟩ := n
  obtain ⟨b1, ⟨b5, b6, b7, b8, b9⟩, b3, b4⟩ := b
  unfold Stq
  rw [hs, e 0 (by omega), ex, w s (by omega)]
  refine ⟨b5.trans n1, by omega, Tr_m n2.2 ⟨?_, ?_, ?_, ?_⟩ (fun k k0 k1 => ?_) (fun k k0 k1 => ?_) (fun k k0 k1 => e k (by omega)) (fun k k0 k1 => e k (by omega)) n4, fun k k0 k1 => absurd k1 (by omega)⟩
  · rw [w s (by omega)]; exact b6
  · rw [w s (by omega)]; exact b7
  · rw [w s (by omega)]; exact b8
  · rw [w s (by omega)]; exact b9
  · rw [w (s + 2) (by omega), w (s + 3) (by omega), w (s + 4) (by omega)]
    exact ⟨(b3 k k0 k1).2.1, (b3 k k0 k1).2.2.1, (b3 k k0 k1).2.2.2⟩
  · rw [w (s + 5) (by omega)]; exact b4 k k0 k1
theorem Sts_save (h : Sts V 9 A) (n : Kn V 10 A) (b : Bec V W (30 + 6 * ((V 9 9 + V 9 10) % 30).toNat) 10) (e : V' = if V 9 10 < 30 then sv W 9 10 (V 9 10 + 1) else sv W 9 9 ((V 9 9 + 1) % 30)) (hs : Sh A B) (hk : Kp B A' (B 3)) : Sts V' 9 A' := by
  obtain ⟨a1, a2, a3, a4⟩ := h
  have w9 : W 9 = V 9 := b.1 9 (by omega)
  have wr : ∀ a, 30 ≤ a → V' a = W a := by
    intro a ha
    rw [e]
    split
    · simp (disch := first | decide | omega | (simp (disch := first | decide | omega) only [sv_s, sv_o, ur_s, ur_e, ur_o]; omega)) only [↓reduceIte, iv_add, iv_sub, iv_mul, iv_neg, iv_ltT, iv_ltF, iv_leT, iv_leF, iv_eqT, iv_eqF, iv_div, iv_mod, ↓bnI_s, ↓bnV_s, ↓bnJ_s, ↓bnR_s, rt_e, rt_0, rt_bz, sv_s, sv_o, ur_s, ur_e, ur_o, bz_T, bz_F, nat_eqF, Nat.reduceAdd]
    · simp (disch := first | decide | omega | (simp (disch := first | decide | omega) only [sv_s, sv_o, ur_s, ur_e, ur_o]; omega)) only [↓reduceIte, iv_add, iv_sub, iv_mul, iv_neg, iv_ltT, iv_ltF, iv_leT, iv_leF, iv_eqT, iv_eqF, iv_div, iv_mod, ↓bnI_s, ↓bnV_s, ↓bnJ_s, ↓bnR_s, rt_e, rt_0, rt_bz, sv_s, sv_o, ur_s, ur_e, ur_o, bz_T, bz_F, nat_eqF, Nat.reduceAdd]
  rcases hs with ⟨s1, rfl⟩ | s
  · rw [if_pos (by omega)] at e
    have hc : ∃ c, c = B 3 := ⟨_, rfl⟩
    obtain ⟨c, hc⟩ := hc
    rw [← hc] at a1 a2 a4 s1 hk
    have e9 : V' 9 9 = V 9 9 := by rw [e]; simp (disch := first | decide | omega | (simp (disch := first | decide | omega) only [sv_s, sv_o, ur_s, ur_e, ur_o]; omega)) only [↓reduceIte, iv_add, iv_sub, iv_mul, iv_neg, iv_ltT, iv_ltF, iv_leT, iv_leF, iv_eqT, iv_eqF, iv_div, iv_mod, ↓bnI_s, ↓bnV_s, ↓bnJ_s, ↓bnR_s, rt_e, rt_0, rt_bz, sv_s, sv_o, ur_s, ur_e, ur_o, bz_T, bz_F, nat_eqF, Nat.reduceAdd, w9]
    have e10 : V' 9 10 = c + 1 := by rw [e]; simp (disch := first | decide | omega | (simp (disch := first | decide | omega) only [sv_s, sv_o, ur_s, ur_e, ur_o]; omega)) only [↓reduceIte, iv_add, iv_sub, iv_mul, iv_neg, iv_ltT, iv_ltF, iv_leT, iv_leF, iv_eqT, iv_eqF, iv_div, iv_mod, ↓bnI_s, ↓bnV_s, ↓bnJ_s, ↓bnR_s, rt_e, rt_0, rt_bz, sv_s, sv_o, ur_s, ur_e, ur_o, bz_T, bz_F, nat_eqF, Nat.reduceAdd, a1]
    refine ⟨e10.trans hk.1.symm, by rw [hk.1]; omega, by rw [e9]; exact a3, fun i i0 i1 => ?_⟩
    rw [hk.1] at i1
    by_cases q : i = c
    · subst q
      exact new_Stq n b wr (by omega) (by unfold sta; rw [e9, a1]) (Kp_new ⟨i0, s1⟩ hk) (by unfold nxt; rw [hk.1, if_neg (by omega)]; exact Kp_old ⟨i0, s1⟩ hk (by omega))
    · have es : sta V' 9 i = sta V 9 i := by unfold sta; rw [e9]
      have rr : ∀ a, a < 6 → V' (sta V' 9 i + a) = V (sta V 9 i + a) := by
        intro a ha
        rw [es, wr _ (by unfold sta; omega)]
        exact b.1 _ (by unfold sta; rw [a1]; omega)
      have r0 := rr 0 (by decide)
      simp only [Nat.add_zero] at r0
      refine Stq_m (by rw [r0]; exact ⟨rfl, rfl, rfl, rfl, rfl⟩) (fun k _ _ => by rw [rr 2 (by decide), rr 3 (by decide), rr 4 (by decide)]; exact ⟨rfl, rfl, rfl⟩) (fun k _ _ => by rw [rr 5 (by decide)]) (Kp_snp ⟨by omega, s1⟩ hk ⟨i0, by omega⟩) (fun k k0 => ?_) (fun k k0 k1 => Kp_old ⟨by omega, s1⟩ hk (by omega)) (a4 i i0 (by omega))
      unfold nxt
      rw [hk.1, if_pos (by omega), ← hc]
      by_cases q2 : i + 1 < c
      · rw [if_pos q2]
        exact Kp_snp ⟨by omega, s1⟩ hk ⟨by omega, q2⟩ k (by omega)
      · rw [if_neg q2, show i + 1 = c by omega]
        exact Kp_new ⟨by omega, s1⟩ hk k (by omega)
  · obtain ⟨s1, s2, s3⟩ := s
    have ss : A 3 = 30 ∧ B 3 = 29 ∧ ∀ k, k ≠ 3 → B k = if 165 ≤ k ∧ k < 1383 then A (k + 42) else A k := ⟨s1, s2, s3⟩
    rw [if_neg (by omega)] at e
    rw [s2] at hk
    rw [s1] at a1 a4
    have e9 : V' 9 9 = (V 9 9 + 1) % 30 := by rw [e]; simp (disch := first | decide | omega | (simp (disch := first | decide | omega) only [sv_s, sv_o, ur_s, ur_e, ur_o]; omega)) only [↓reduceIte, iv_add, iv_sub, iv_mul, iv_neg, iv_ltT, iv_ltF, iv_leT, iv_leF, iv_eqT, iv_eqF, iv_div, iv_mod, ↓bnI_s, ↓bnV_s, ↓bnJ_s, ↓bnR_s, rt_e, rt_0, rt_bz, sv_s, sv_o, ur_s, ur_e, ur_o, bz_T, bz_F, nat_eqF, Nat.reduceAdd]
    have e10 : V' 9 10 = 30 := by rw [e]; simp (disch := first | decide | omega | (simp (disch := first | decide | omega) only [sv_s, sv_o, ur_s, ur_e, ur_o]; omega)) only [↓reduceIte, iv_add, iv_sub, iv_mul, iv_neg, iv_ltT, iv_ltF, iv_leT, iv_leF, iv_eqT, iv_eqF, iv_div, iv_mod, ↓bnI_s, ↓bnV_s, ↓bnJ_s, ↓bnR_s, rt_e, rt_0, rt_bz, sv_s, sv_o, ur_s, ur_e, ur_o, bz_T, bz_F, nat_eqF, Nat.reduceAdd, w9]; exact a1
    have ba : ∀ k, (k = 0 ∨ (7 ≤ k ∧ k < 35) ∨ (1425 ≤ k ∧ k < 1450)) → B k = A k := fun k hk => by rw [s3 k (by omega), if_neg (by omega)]
    refine ⟨by rw [e10, hk.1]; rfl, by rw [hk.1]; omega, by rw [e9]; omega, fun i i0 i1 => ?_⟩
    rw [hk.1] at i1
    by_cases q : i = 29
    · subst q
      exact new_Stq n b wr (by omega) (by unfold sta; rw [e9, a1]; omega) (fun k h => (Kp_new ⟨by omega, by omega⟩ hk k h).trans (ba k (by omega))) (by unfold nxt; rw [hk.1, if_neg (by omega)]; exact (Kp_old ⟨by omega, by omega⟩ hk (by omega)).trans (ba 0 (by omega)))
    · have es : sta V' 9 i = sta V 9 (i + 1) := by unfold sta; rw [e9]; omega
      have rr : ∀ a, a < 6 → V' (sta V' 9 i + a) = V (sta V 9 (i + 1) + a) := by
        intro a ha
        rw [es, wr _ (by unfold sta; omega)]
        exact b.1 _ (by unfold sta; rw [a1]; omega)
      have r0 := rr 0 (by decide)
      simp only [Nat.add_zero] at r0
      refine Stq_m (by rw [r0]; exact ⟨rfl, rfl, rfl, rfl, rfl⟩) (fun k _ _ => by rw [rr 2 (by decide), rr 3 (by decide), rr 4 (by decide)]; exact ⟨rfl, rfl, rfl⟩) (fun k _ _ => by rw [rr 5 (by decide)]) (fun k k0 => (Kp_snp ⟨by omega, by omega⟩ hk ⟨i0, by omega⟩ k k0).trans (Sh_snp ss ⟨i0, by omega⟩ k k0)) (fun k k0 => ?_) (fun k k0 k1 => (Kp_old ⟨by omega, by omega⟩ hk (by omega)).trans (ba k (by omega))) (a4 (i + 1) (by omega) (by omega))
      unfold nxt
      rw [hk.1, if_pos (by omega), s1]
      by_cases q2 : i + 1 < 29
      · rw [if_pos (by omega)]
        exact (Kp_snp ⟨by omega, by omega⟩ hk ⟨by omega, q2⟩ k (by omega)).trans (Sh_snp ss ⟨by omega, q2⟩ k (by omega))
      · rw [if_neg (by omega), show i + 1 = 29 by omega]
        exact (Kp_new ⟨by omega, by omega⟩ hk k (by omega)).trans (ba k (by omega))
end
