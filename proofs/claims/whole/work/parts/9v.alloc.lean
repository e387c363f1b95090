/-! NEW OBJECTS, by whole numbers -/
def z0 (V : Vm) (N : Nat) : Vm := fun a k => if a = N then 0 else V a k
def mz (z : Zz) (kd len : Nat) : Zz := (va_up z.1 z.2.2.1 (fun _ => 0), va_up z.2.1 z.2.2.1 (kd, len), z.2.2.1 + 1, z.2.2.2 + len)
theorem em_mk {V J : Vm} {z : Zz} {kd len : Nat} : mk (em V J z) kd len = em (z0 V z.2.2.1) (z0 J z.2.2.1) (mz z kd len) := by
  have h1 : va_up (fun a (k : Nat) => iv (V a k)) z.2.2.1 (fun _ => 0) = fun a (k : Nat) => iv (z0 V z.2.2.1 a k) := by
    funext a k
    unfold va_up z0
    by_cases q : a = z.2.2.1
    · rw [if_pos q, if_pos q]; rfl
    · rw [if_neg q, if_neg q]
  have h2 : va_up (fun a (k : Nat) => jv (J a k)) z.2.2.1 (fun _ => 0) = fun a (k : Nat) => jv (z0 J z.2.2.1 a k) := by
    funext a k
    unfold va_up z0
    by_cases q : a = z.2.2.1
    · rw [if_pos q, if_pos q]; rfl
    · rw [if_neg q, if_neg q]
  show (va_up (fun a (k : Nat) => iv (V a k)) z.2.2.1 (fun _ => 0), va_up (fun a (k : Nat) => jv (J a k)) z.2.2.1 (fun _ => 0), _) = _
  rw [h1, h2]
  rfl
theorem em_wI {V J : Vm} {z : Zz} {a : Nat} {g : Nat → Int32} {f : Int → Int} (h : ∀ k : Nat, g k = iv (f k)) : wI (em V J z) a g = em (fun b => if b = a then f else V b) J z := by
  have h1 : va_up (fun a (k : Nat) => iv (V a k)) a g = fun b (k : Nat) => iv ((fun b => if b = a then f else V b) b k) := by
    funext b k
    unfold va_up
    by_cases q : b = a
    · rw [if_pos q]
      show g k = iv ((if b = a then f else V b) k)
      rw [if_pos q]; exact h k
    · rw [if_neg q]
      show _ = iv ((if b = a then f else V b) k)
      rw [if_neg q]
  show (va_up (fun a (k : Nat) => iv (V a k)) a g, _) = _
  rw [h1]
  rfl
section
variable {V J : Vm} {z : Zz} {a n0 : Nat} {m : Int}
theorem y_copyOf (sa : z.2.1 a = (1, n0)) (ha : 8 ≤ a ∧ a < z.2.2.1) (hm : 0 ≤ m ∧ m ≤ n0) (n9 : n0 < 1000) : ∃ V' J', cA m_Arrays_copyOf [.ref a, .int (iv m)] (em V J z) = some (.ref z.2.2.1, em V' J' (mz z 1 m.toNat)) ∧ (∀ b, b ≠ z.2.2.1 → V' b = V b) ∧ ∀ k, 0 ≤ k → k < m → V' z.2.2.1 k = V a k := by
  have sN : (mz z 1 m.toNat).2.1 z.2.2.1 = (1, m.toNat) := va_up_s _ _ _
  have so : (mz z 1 m.toNat).2.1 a = (1, n0) := (va_up_o _ _ _ _ (by omega)).trans sa
  by_cases c : m = n0
  · refine ⟨fun b => if b = z.2.2.1 then V a else z0 V z.2.2.1 b, z0 J z.2.2.1, ?_, fun b hb => ?_, fun k _ _ => ?_⟩
    · have mt : m.toNat = n0 := by omega
      rw [q_Arrays_copyOf, alN_e sa rfl, if_pos (by rw [c])]
      have cl : ∀ f : Nat → Mem → Rs, clI (em V J z) a f = f z.2.2.1 (wI (mk (em V J z) 1 n0) z.2.2.1 (fun k => iv (V a k))) := fun f => by
        have e : (mS (em V J z) a) = (1, n0) := sa
        unfold clI
        rw [e, if_pos ⟨rfl, ha.1⟩]
        rfl
      rw [cl, em_mk, em_wI (f := V a) (fun k => rfl), ← mt]
      have g1 : (Nat.beq (mS (em (fun b => if b = z.2.2.1 then V a else z0 V z.2.2.1 b) (z0 J z.2.2.1) (mz z 1 m.toNat)) z.2.2.1).1 1 && Nat.ble 8 z.2.2.1) = true := by
        have e : mS (em (fun b => if b = z.2.2.1 then V a else z0 V z.2.2.1 b) (z0 J z.2.2.1) (mz z 1 m.toNat)) z.2.2.1 = (1, m.toNat) := sN
        rw [e]
        rw [Bool.and_eq_true]
        exact ⟨rfl, Nat.ble_eq.mpr (by omega)⟩
      rw [g1]
      rfl
    · show (if b = z.2.2.1 then V a else z0 V z.2.2.1 b) = V b
      rw [if_neg hb]
      funext k
      show (if b = z.2.2.1 then 0 else V b k) = V b k
      rw [if_neg hb]
    · show (if z.2.2.1 = z.2.2.1 then V a else z0 V z.2.2.1 z.2.2.1) k = V a k
      rw [if_pos rfl]
  · have lt : m < n0 := by omega
    refine ⟨fun b => if b = z.2.2.1 then (fun k => if 0 ≤ k ∧ k < m then V a k else 0) else z0 V z.2.2.1 b, z0 J z.2.2.1, ?_, fun b hb => ?_, fun k k0 k1 => ?_⟩
    · have ti : (iv m).toInt = m := iv_toInt (by omega)
      have tn : (iv m).toNatClampNeg = m.toNat := by have := iv_clamp (a := m) (by omega); omega
      have nw : ∀ f : Nat → Mem → Rs, nwA (em V J z) 1 (iv m) f = f z.2.2.1 (em (z0 V z.2.2.1) (z0 J z.2.2.1) (mz z 1 m.toNat)) := fun f => by
        unfold nwA
        rw [ti, if_pos ⟨hm.1, by omega⟩, tn, em_mk]
        rfl
      have mn := y_min (a := (n0 : Int)) (b := m) (h := em (z0 V z.2.2.1) (z0 J z.2.2.1) (mz z 1 m.toNat)) (by omega)
      rw [show min (n0 : Int) m = m by omega] at mn
      have ne : ¬ iv m = iv (n0 : Int) := of_eq_false (iv_eqF (by omega))
      rw [q_Arrays_copyOf, alN_e sa rfl, if_neg ne, nw, alN_e so rfl, mn, bnI_s]
      have ac : ∀ f : Mem → Rs, acI (em (z0 V z.2.2.1) (z0 J z.2.2.1) (mz z 1 m.toNat)) a z.2.2.1 0 0 (iv m) f = f (em (fun b => if b = z.2.2.1 then (fun k => if 0 ≤ k ∧ k < m then V a k else 0) else z0 V z.2.2.1 b) (z0 J z.2.2.1) (mz z 1 m.toNat)) := fun f => by
        unfold acI
        have e1 : mS (em (z0 V z.2.2.1) (z0 J z.2.2.1) (mz z 1 m.toNat)) a = (1, n0) := so
        have e2 : mS (em (z0 V z.2.2.1) (z0 J z.2.2.1) (mz z 1 m.toNat)) z.2.2.1 = (1, m.toNat) := sN
        have i0 : (0 : Int32).toInt = 0 := rfl
        have c0 : (0 : Int32).toNatClampNeg = 0 := rfl
        rw [e1, e2, ti, i0, c0, tn, if_pos ⟨rfl, rfl, by omega, ha.1, by omega, by omega, by omega, hm.1, by omega, by omega⟩]
        congr 1
        refine em_wI (f := fun k => if 0 ≤ k ∧ k < m then V a k else 0) (fun k => ?_)
        show va_cpy (fun k : Nat => iv (z0 V z.2.2.1 a k)) (fun k : Nat => iv (z0 V z.2.2.1 z.2.2.1 k)) 0 0 m.toNat k = iv (if 0 ≤ (k : Int) ∧ (k : Int) < m then V a k else 0)
        unfold va_cpy z0
        by_cases q : (k : Int) < m
        · rw [if_pos (by omega), if_pos (by omega)]
          show iv (if a = z.2.2.1 then 0 else V a ((0 + (k - 0) : Nat) : Int)) = iv (V a k)
          rw [if_neg (by omega), show 0 + (k - 0) = k by omega]
        · rw [if_neg (by omega), if_neg (by omega)]
          show iv (if z.2.2.1 = z.2.2.1 then 0 else V z.2.2.1 (k : Int)) = iv 0
          rw [if_pos rfl]
      rw [ac]
    · show (if b = z.2.2.1 then _ else z0 V z.2.2.1 b) = V b
      rw [if_neg hb]
      funext k
      show (if b = z.2.2.1 then 0 else V b k) = V b k
      rw [if_neg hb]
    · show (if z.2.2.1 = z.2.2.1 then (fun k => if 0 ≤ k ∧ k < m then V a k else 0) else z0 V z.2.2.1 z.2.2.1) k = V a k
      rw [if_pos rfl]
      show (if 0 ≤ k ∧ k < m then V a k else 0) = V a k
      rw [if_pos ⟨k0, k1⟩]
theorem pfR_e {ci k n x : Nat} {f : Mem → Rs} (h : z.2.1 a = (16 + ci, n)) (h8 : 8 ≤ a) : pfR (em V J z) ci k a x f = f (em V J (va_up z.1 a (va_up (z.1 a) k x), z.2)) := by
  have e : mS (em V J z) a = (16 + ci, n) := h
  unfold pfR
  rw [e, if_pos ⟨rfl, h8⟩]
  rfl
end
