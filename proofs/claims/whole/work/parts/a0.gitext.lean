/-! A TEXT: the invariant, when one has come -/
section
variable {V J U : Vm} {z z' : Zz} {I0 : Nat → Nat → Int32}
theorem LT.txl {W D D' : Int → Int} {c w i n s a : Int} (h : LT W D c w (681 * i) n s a) (hw : w ≤ 304) (d : ∀ q, 0 ≤ q → q < c → D' q = D q) : TXL W D' c i n s a := by
  rcases h with h | ⟨k, p, wb, we, M, h1, h2, h3, h4, h5, h6, h7, h8, h9, h10⟩
  · exact Or.inl h
  · have a0 := h4.1
    exact Or.inr ⟨k, p, wb, we, M, h1, h2, h3, h4.ext (fun q q0 q1 => d q (by omega) (by omega)), ⟨h5.1, by rw [d p (by have := h4.2; omega) h5.1]; exact h5.2⟩, h6, h7, by omega, h9, h10⟩
theorem GI_t (g : GI TXR I0 V z) (hN : 451 ≤ z.2.2.1) (ro : ∀ a, a < z.2.2.1 → a ≠ 9 → (a < 419 ∨ a = 420 ∨ 426 < a) → a ≠ 435 → a ≠ 436 → a ≠ 438 → a ≠ 440 → U a = V a) (r9 : ∀ k, k ≠ 11 → U 9 k = V 9 k) (r11 : U 9 11 = U 436 1) (h1 : V 436 1 ≤ U 436 1 ∧ U 436 1 ≤ 4) (r436 : ∀ k, k ≠ 1 → U 436 k = V 436 k) (r438 : ∀ k, k < 681 * V 436 1 → U 438 k = V 438 k) (zs : ∀ a, a < z.2.2.1 → z'.2.1 a = z.2.1 a) (zr : ∀ a, a < z.2.2.1 → a ≠ 17 → z'.1 a = z.1 a) (z17 : ∀ k, k ≠ (V 436 1).toNat → z'.1 17 k = z.1 17 k) (le : z.2.2.1 ≤ z'.2.2.1) (new : ∀ i, V 436 1 ≤ i → i < U 436 1 → TXR U z' (z'.1 17 i.toNat) i) (t : Tap U) (f : Fau U) (h23 : U 435 23 = 1) : GI TXR I0 U z' := by
  obtain ⟨g1, g2, g3, g4, g5, g6, g7, g8⟩ := g
  have old : ∀ q i, 0 ≤ i → i < V 436 1 → TXR V z q i → TXR U z' q i := fun q i i0 i1 h =>
    TXR_m (fun j j0 j1 => r438 j (by omega)) (fun a a0 a1 => ro a a1 (by omega) (by omega) (by omega) (by omega) (by omega) (by omega)) zs (fun a a0 a1 => zr a a1 (by omega)) le h
  have e437 : U 437 = V 437 := ro 437 (by omega) (by omega) (by omega) (by omega) (by omega) (by omega) (by omega)
  have e210 : U 210 = V 210 := ro 210 (by omega) (by omega) (by omega) (by omega) (by omega) (by omega) (by omega)
  refine ⟨?_, ?_, ?_, t, f, ?_, h23, ?_⟩
  · obtain ⟨t1, t2, t3, t4, t5⟩ := g1.2.2.2.2.2.2.2.2
    refine HR_T (fun a h1 h2 => ro a (by omega) (by omega) (by omega) (by omega) (by omega) (by omega) (by omega)) (r9 9 (by decide)) (r9 10 (by decide)) (fun k k1 k2 => r436 k k1) ⟨r11, by omega, ?_, ?_, fun i i0 i1 => ?_⟩ g1
    · rw [r9 12 (by decide), r436 2 (by decide)]; exact t3
    · rw [r436 2 (by decide)]; omega
    · by_cases q : i < V 436 1
      · have e : z'.1 (9 + 8) i.toNat = z.1 (9 + 8) i.toNat := z17 i.toNat (by omega)
        rw [e]
        exact old _ i i0 q (t5 i i0 q)
      · exact new i (by omega) i1
  · rw [e437]
    obtain ⟨t1, t2, t3, t4, t5⟩ := g2.2.2.2.2.2.2.2.2
    refine HR_T (fun a h1 h2 => ro a (by omega) (by omega) (by omega) (by omega) (by omega) (by omega) (by omega)) (by rw [e210]) (by rw [e210]) (fun k k1 k2 => rfl) ⟨by rw [e210]; exact t1, t2, by rw [e210]; exact t3, t4, fun i i0 i1 => ?_⟩ g2
    rw [zr (210 + 8) (by omega) (by decide)]
    exact old _ i i0 (by omega) (t5 i i0 i1)
  · rw [e437]; omega
  · intro r hr
    rw [ro 432 (by omega) (by omega) (by omega) (by omega) (by omega) (by omega) (by omega)]; exact g6 r hr
  · intro a ha k
    rw [ro a (by omega) (by omega) (by omega) (by omega) (by omega) (by omega) (by omega)]; exact g8 a ha k
theorem Fz_t (Z : Fz z) {N : Nat} {i : Int} (hN : N = z.2.2.1) (h451 : 451 ≤ N) {z3 : Zz} (zs : ∀ a, a < N → z3.2.1 a = z.2.1 a) (zr : ∀ a, a < N → z3.1 a = z.1 a) (zn : z3.2.1 N = (25, 4)) (le : z3.2.2.1 = N + 3) : Fz (zk z3 N i) := by
  subst hN
  have key : ∀ H k, HH H → k < 4 → z3.1 (H + 8) k = 0 ∨ ((8 ≤ z3.1 (H + 8) k ∧ z3.1 (H + 8) k < z3.2.2.1) ∧ (z3.2.1 (z3.1 (H + 8) k)).1 = 25) := fun H k hH hk => by
    have b : H + 8 < z.2.2.1 := by rcases hH with rfl | rfl <;> omega
    rw [zr _ b]
    rcases Z H k hH hk with q | ⟨⟨q1, q2⟩, q3⟩
    · exact Or.inl q
    · exact Or.inr ⟨⟨q1, by omega⟩, by rw [zs _ q2]; exact q3⟩
  intro H k hH hk
  have h := key H k hH hk
  by_cases q : H + 8 = 17
  · by_cases w : k = i.toNat
    · have e : (zk z3 z.2.2.1 i).1 (H + 8) k = z.2.2.1 := by
        rw [q, w]
        show va_up z3.1 17 (va_up (z3.1 17) i.toNat z.2.2.1) 17 i.toNat = z.2.2.1
        rw [va_up_s, va_up_s]
      rw [e]
      refine Or.inr ⟨⟨by omega, ?_⟩, ?_⟩
      · show z.2.2.1 < z3.2.2.1
        omega
      · show (z3.2.1 z.2.2.1).1 = 25
        rw [zn]
    · have e : (zk z3 z.2.2.1 i).1 (H + 8) k = z3.1 (H + 8) k := by
        rw [q]
        show va_up z3.1 17 (va_up (z3.1 17) i.toNat z.2.2.1) 17 k = _
        rw [va_up_s, va_up_o _ _ _ _ w]
      rw [e]; exact h
  · have e : (zk z3 z.2.2.1 i).1 (H + 8) = z3.1 (H + 8) := va_up_o _ _ _ _ q
    rw [e]; exact h
end
