/-! printed by wip/gen/emit_fix.py: after the constructors; rows for memories (I, J, z) -/
abbrev Zz : Type := (Nat → Nat → Nat) × (Nat → Nat × Nat) × Nat × Nat
/-- the memory with x at place k of a -/
def stt (I : Nat → Nat → Int32) (a k : Nat) (x : Int32) : Nat → Nat → Int32 := va_up I a (upd (I a) k x)
theorem stt_a (I : Nat → Nat → Int32) (a k : Nat) (x : Int32) (b j : Nat) : stt I a k x b j = if b = a ∧ j = k then x else I b j := by
  unfold stt va_up upd
  by_cases h : b = a
  · subst h
    by_cases h2 : j = k
    · rw [if_pos rfl, if_pos h2, if_pos ⟨rfl, h2⟩]
    · rw [if_pos rfl, if_neg h2, if_neg (fun q => h2 q.2)]
  · rw [if_neg h, if_neg (fun q => h q.1)]
theorem stt_s (I : Nat → Nat → Int32) (a k : Nat) (x : Int32) : stt I a k x a k = x := by rw [stt_a, if_pos ⟨rfl, rfl⟩]
theorem stt_o (I : Nat → Nat → Int32) (a k : Nat) (x : Int32) (b j : Nat) (h : b ≠ a ∨ j ≠ k) : stt I a k x b j = I b j := by rw [stt_a, if_neg (fun q => h.elim (fun e => e q.1) (fun e => e q.2))]
theorem stt_r (I : Nat → Nat → Int32) (a k : Nat) (x : Int32) (b : Nat) (h : b ≠ a) : stt I a k x b = I b := by funext j; exact stt_o _ _ _ _ _ _ (Or.inl h)
section
variable {I : Nat → Nat → Int32} {J : Nat → Nat → Int64} {z : Zz}
theorem mS_z : mS (I, J, z) = z.2.1 := rfl
theorem mR_z : mR (I, J, z) = z.1 := rfl
theorem mI_z : mI (I, J, z) = I := rfl
theorem mJ_z : mJ (I, J, z) = J := rfl
theorem mN_z : mN (I, J, z) = z.2.2.1 := rfl
theorem wI_z (a : Nat) (f : Nat → Int32) : wI (I, J, z) a f = (va_up I a f, J, z) := rfl
theorem wJ_z (a : Nat) (f : Nat → Int64) : wJ (I, J, z) a f = (I, va_up J a f, z) := rfl
theorem gfI_z {ci k a n : Nat} {f : Int32 → Rs} (h : z.2.1 a = (16 + ci, n)) : gfI (I, J, z) ci k a f = f (I a k) := if_pos (by rw [mS_z, h])
theorem gfJ_z {ci k a n : Nat} {f : Int64 → Rs} (h : z.2.1 a = (16 + ci, n)) : gfJ (I, J, z) ci k a f = f (J a k) := if_pos (by rw [mS_z, h])
theorem gfR_z {ci k a n : Nat} {f : Nat → Rs} (h : z.2.1 a = (16 + ci, n)) : gfR (I, J, z) ci k a f = f (z.1 a k) := if_pos (by rw [mS_z, h])
theorem pfI_z {ci k a n : Nat} {x : Int32} {f : Mem → Rs} (h : z.2.1 a = (16 + ci, n)) (h8 : 8 ≤ a) : pfI (I, J, z) ci k a x f = f (stt I a k x, J, z) := if_pos ⟨by rw [mS_z, h], h8⟩
theorem pfZ_z {ci k a n : Nat} {x : Int32} {f : Mem → Rs} (h : z.2.1 a = (16 + ci, n)) (h8 : 8 ≤ a) (hx : x = 0 ∨ x = 1) : pfZ (I, J, z) ci k a x f = f (stt I a k x, J, z) := if_pos ⟨by rw [mS_z, h], h8, hx⟩
theorem pfJ_z {ci k a n : Nat} {x : Int64} {f : Mem → Rs} (h : z.2.1 a = (16 + ci, n)) (h8 : 8 ≤ a) : pfJ (I, J, z) ci k a x f = f (I, va_up J a (vp_updL (J a) k x), z) := if_pos ⟨by rw [mS_z, h], h8⟩
theorem ldI_z {a n : Nat} {i : Int32} {f : Int32 → Rs} (h : z.2.1 a = (1, n)) (h0 : 0 ≤ i.toInt ∧ i.toInt < n) : ldI (I, J, z) a i f = f (I a i.toNatClampNeg) := if_pos ⟨by rw [mS_z, h]; rfl, by rw [mS_z, h]; exact h0⟩
theorem ldI_x {a n : Nat} {i : Int32} {f : Int32 → Rs} (h : z.2.1 a = (8, n)) (h0 : 0 ≤ i.toInt ∧ i.toInt < n) : ldI (I, J, z) a i f = f (I a i.toNatClampNeg) := if_pos ⟨by rw [mS_z, h]; rfl, by rw [mS_z, h]; exact h0⟩
theorem ldB_z {a n : Nat} {i : Int32} {f : Int32 → Rs} (h : z.2.1 a = (2, n)) (h0 : 0 ≤ i.toInt ∧ i.toInt < n) : ldB (I, J, z) a i f = f (I a i.toNatClampNeg) := if_pos ⟨by rw [mS_z, h]; rfl, by rw [mS_z, h]; exact h0⟩
theorem ldB_x {a n : Nat} {i : Int32} {f : Int32 → Rs} (h : z.2.1 a = (9, n)) (h0 : 0 ≤ i.toInt ∧ i.toInt < n) : ldB (I, J, z) a i f = f (I a i.toNatClampNeg) := if_pos ⟨by rw [mS_z, h]; rfl, by rw [mS_z, h]; exact h0⟩
theorem ldJ_z {a n : Nat} {i : Int32} {f : Int64 → Rs} (h : z.2.1 a = (3, n)) (h0 : 0 ≤ i.toInt ∧ i.toInt < n) : ldJ (I, J, z) a i f = f (J a i.toNatClampNeg) := if_pos ⟨by rw [mS_z, h], by rw [mS_z, h]; exact h0⟩
theorem stI_z {a n : Nat} {i x : Int32} {f : Mem → Rs} (h : z.2.1 a = (1, n)) (h0 : 0 ≤ i.toInt ∧ i.toInt < n) : stI (I, J, z) a i x f = f (stt I a i.toNatClampNeg x, J, z) := if_pos ⟨by rw [mS_z, h], by rw [mS_z, h]; exact h0⟩
theorem stB_z {a n : Nat} {i x : Int32} {f : Mem → Rs} (h : z.2.1 a = (2, n)) (hx : x = 0 ∨ x = 1) (h0 : 0 ≤ i.toInt ∧ i.toInt < n) : stB (I, J, z) a i x f = f (stt I a i.toNatClampNeg x, J, z) := if_pos ⟨by rw [mS_z, h], hx, by rw [mS_z, h]; exact h0⟩
theorem stJ_z {a n : Nat} {i : Int32} {x : Int64} {f : Mem → Rs} (h : z.2.1 a = (3, n)) (h0 : 0 ≤ i.toInt ∧ i.toInt < n) : stJ (I, J, z) a i x f = f (I, va_up J a (vp_updL (J a) i.toNatClampNeg x), z) := if_pos ⟨by rw [mS_z, h], by rw [mS_z, h]; exact h0⟩
theorem alN_z {a k n : Nat} {f : Int32 → Rs} (h : z.2.1 a = (k, n)) (hk : isAr k = true) : alN (I, J, z) a f = f (Int32.ofNat n) := (if_pos (by rw [mS_z, h]; exact hk)).trans (by rw [mS_z, h])
theorem ibn {k n : Nat} (hk : k < n) (hn : n < 2 ^ 31) : 0 ≤ (nI k).toInt ∧ (nI k).toInt < n := by rw [nI_toInt (by omega)]; omega
theorem ldI_n {a n k : Nat} {f : Int32 → Rs} (h : z.2.1 a = (1, n)) (hk : k < n) (hn : n < 2 ^ 31) : ldI (I, J, z) a (nI k) f = f (I a k) := by rw [ldI_z h (ibn hk hn), nI_clamp (by omega)]
theorem ldB_n {a n k : Nat} {f : Int32 → Rs} (h : z.2.1 a = (2, n)) (hk : k < n) (hn : n < 2 ^ 31) : ldB (I, J, z) a (nI k) f = f (I a k) := by rw [ldB_z h (ibn hk hn), nI_clamp (by omega)]
theorem ldJ_n {a n k : Nat} {f : Int64 → Rs} (h : z.2.1 a = (3, n)) (hk : k < n) (hn : n < 2 ^ 31) : ldJ (I, J, z) a (nI k) f = f (J a k) := by rw [ldJ_z h (ibn hk hn), nI_clamp (by omega)]
theorem stI_n {a n k : Nat} {x : Int32} {f : Mem → Rs} (h : z.2.1 a = (1, n)) (hk : k < n) (hn : n < 2 ^ 31) : stI (I, J, z) a (nI k) x f = f (stt I a k x, J, z) := by rw [stI_z h (ibn hk hn), nI_clamp (by omega)]
theorem stB_n {a n k : Nat} {x : Int32} {f : Mem → Rs} (h : z.2.1 a = (2, n)) (hx : x = 0 ∨ x = 1) (hk : k < n) (hn : n < 2 ^ 31) : stB (I, J, z) a (nI k) x f = f (stt I a k x, J, z) := by rw [stB_z h hx (ibn hk hn), nI_clamp (by omega)]
theorem stJ_n {a n k : Nat} {x : Int64} {f : Mem → Rs} (h : z.2.1 a = (3, n)) (hk : k < n) (hn : n < 2 ^ 31) : stJ (I, J, z) a (nI k) x f = f (I, va_up J a (vp_updL (J a) k x), z) := by rw [stJ_z h (ibn hk hn), nI_clamp (by omega)]
theorem bnI_s {x : Int32} {h : Mem} {f : Int32 → Mem → Rs} : bnI (some (.int x, h)) f = f x h := rfl
theorem bnJ_s {x : Int64} {h : Mem} {f : Int64 → Mem → Rs} : bnJ (some (.long x, h)) f = f x h := rfl
theorem bnR_s {x : Nat} {h : Mem} {f : Nat → Mem → Rs} : bnR (some (.ref x, h)) f = f x h := rfl
theorem bnV_s {h : Mem} {f : Mem → Rs} : bnV (some (.null, h)) f = f h := rfl
theorem grd_z {a k n : Nat} {r : Rs} (h : z.2.1 a = (k, n)) : grd (Nat.beq (mS (I, J, z) a).1 k) r = r := by
  rw [mS_z, h]
  show grd (Nat.beq k k) r = r
  rw [Nat.beq_refl]
  rfl
theorem rt_0 {a : Int32} {h : Mem} : rtN 0 a h = some (.int a, h) := rfl
theorem rt_10 {h : Mem} : rtN 1 0 h = some (.int 0, h) := rfl
theorem rt_11 {h : Mem} : rtN 1 1 h = some (.int 1, h) := rfl
end
def tbS_0 : List (Nat × Nat) := [(0, 0), (0, 0), (0, 0), (0, 0), (0, 0), (0, 0), (0, 0), (0, 0), (26, 9), (18, 13), (23, 10), (1, 6), (1, 6), (1, 6), (1, 6), (1, 25), (5, 30), (6, 4), (1, 36), (1, 36), (1, 8), (19, 3), (1, 6), (1, 6), (19, 3), (1, 8), (1, 8), (19, 3), (1, 8), (1, 8), (23, 10), (1, 6), (1, 6), (1, 6), (1, 6), (1, 25), (23, 10), (1, 6), (1, 6), (1, 6), (1, 6), (1, 25), (23, 10), (1, 6), (1, 6), (1, 6), (1, 6), (1, 25), (23, 10), (1, 6), (1, 6), (1, 6), (1, 6), (1, 25), (23, 10), (1, 6), (1, 6), (1, 6), (1, 6), (1, 25)]
def tbS_1 : List (Nat × Nat) := [(23, 10), (1, 6), (1, 6), (1, 6), (1, 6), (1, 25), (23, 10), (1, 6), (1, 6), (1, 6), (1, 6), (1, 25), (23, 10), (1, 6), (1, 6), (1, 6), (1, 6), (1, 25), (23, 10), (1, 6), (1, 6), (1, 6), (1, 6), (1, 25), (23, 10), (1, 6), (1, 6), (1, 6), (1, 6), (1, 25), (23, 10), (1, 6), (1, 6), (1, 6), (1, 6), (1, 25), (23, 10), (1, 6), (1, 6), (1, 6), (1, 6), (1, 25), (23, 10), (1, 6), (1, 6), (1, 6), (1, 6), (1, 25), (23, 10), (1, 6), (1, 6), (1, 6), (1, 6), (1, 25), (23, 10), (1, 6), (1, 6), (1, 6), (1, 6), (1, 25)]
def tbS_2 : List (Nat × Nat) := [(23, 10), (1, 6), (1, 6), (1, 6), (1, 6), (1, 25), (23, 10), (1, 6), (1, 6), (1, 6), (1, 6), (1, 25), (23, 10), (1, 6), (1, 6), (1, 6), (1, 6), (1, 25), (23, 10), (1, 6), (1, 6), (1, 6), (1, 6), (1, 25), (23, 10), (1, 6), (1, 6), (1, 6), (1, 6), (1, 25), (23, 10), (1, 6), (1, 6), (1, 6), (1, 6), (1, 25), (23, 10), (1, 6), (1, 6), (1, 6), (1, 6), (1, 25), (23, 10), (1, 6), (1, 6), (1, 6), (1, 6), (1, 25), (23, 10), (1, 6), (1, 6), (1, 6), (1, 6), (1, 25), (23, 10), (1, 6), (1, 6), (1, 6), (1, 6), (1, 25)]
def tbS_3 : List (Nat × Nat) := [(23, 10), (1, 6), (1, 6), (1, 6), (1, 6), (1, 25), (23, 10), (1, 6), (1, 6), (1, 6), (1, 6), (1, 25), (23, 10), (1, 6), (1, 6), (1, 6), (1, 6), (1, 25), (23, 10), (1, 6), (1, 6), (1, 6), (1, 6), (1, 25), (23, 10), (1, 6), (1, 6), (1, 6), (1, 6), (1, 25), (18, 13), (23, 10), (1, 6), (1, 6), (1, 6), (1, 6), (1, 25), (5, 30), (6, 4), (1, 36), (1, 36), (1, 8), (19, 3), (1, 6), (1, 6), (19, 3), (1, 8), (1, 8), (19, 3), (1, 8), (1, 8), (23, 10), (1, 6), (1, 6), (1, 6), (1, 6), (1, 25), (23, 10), (1, 6), (1, 6)]
def tbS_4 : List (Nat × Nat) := [(1, 6), (1, 6), (1, 25), (23, 10), (1, 6), (1, 6), (1, 6), (1, 6), (1, 25), (23, 10), (1, 6), (1, 6), (1, 6), (1, 6), (1, 25), (23, 10), (1, 6), (1, 6), (1, 6), (1, 6), (1, 25), (23, 10), (1, 6), (1, 6), (1, 6), (1, 6), (1, 25), (23, 10), (1, 6), (1, 6), (1, 6), (1, 6), (1, 25), (23, 10), (1, 6), (1, 6), (1, 6), (1, 6), (1, 25), (23, 10), (1, 6), (1, 6), (1, 6), (1, 6), (1, 25), (23, 10), (1, 6), (1, 6), (1, 6), (1, 6), (1, 25), (23, 10), (1, 6), (1, 6), (1, 6), (1, 6), (1, 25), (23, 10), (1, 6), (1, 6)]
def tbS_5 : List (Nat × Nat) := [(1, 6), (1, 6), (1, 25), (23, 10), (1, 6), (1, 6), (1, 6), (1, 6), (1, 25), (23, 10), (1, 6), (1, 6), (1, 6), (1, 6), (1, 25), (23, 10), (1, 6), (1, 6), (1, 6), (1, 6), (1, 25), (23, 10), (1, 6), (1, 6), (1, 6), (1, 6), (1, 25), (23, 10), (1, 6), (1, 6), (1, 6), (1, 6), (1, 25), (23, 10), (1, 6), (1, 6), (1, 6), (1, 6), (1, 25), (23, 10), (1, 6), (1, 6), (1, 6), (1, 6), (1, 25), (23, 10), (1, 6), (1, 6), (1, 6), (1, 6), (1, 25), (23, 10), (1, 6), (1, 6), (1, 6), (1, 6), (1, 25), (23, 10), (1, 6), (1, 6)]
def tbS_6 : List (Nat × Nat) := [(1, 6), (1, 6), (1, 25), (23, 10), (1, 6), (1, 6), (1, 6), (1, 6), (1, 25), (23, 10), (1, 6), (1, 6), (1, 6), (1, 6), (1, 25), (23, 10), (1, 6), (1, 6), (1, 6), (1, 6), (1, 25), (23, 10), (1, 6), (1, 6), (1, 6), (1, 6), (1, 25), (23, 10), (1, 6), (1, 6), (1, 6), (1, 6), (1, 25), (23, 10), (1, 6), (1, 6), (1, 6), (1, 6), (1, 25), (23, 10), (1, 6), (1, 6), (1, 6), (1, 6), (1, 25), (23, 10), (1, 6), (1, 6), (1, 6), (1, 6), (1, 25), (23, 10), (1, 6), (1, 6), (1, 6), (1, 6), (1, 25), (16, 1), (1, 300), (24, 6)]
def tbS_7 : List (Nat × Nat) := [(1, 300), (1, 301), (1, 301), (1, 301), (20, 11), (1, 72), (1, 301), (21, 8), (1, 6), (1, 6), (17, 4), (22, 4), (1, 125), (1, 125), (1, 31), (27, 39), (1, 1450), (1, 1450), (1, 2724), (1, 300), (1, 160), (1, 7), (3, 330), (2, 330), (1, 23), (1, 6), (1, 6), (2, 144), (1, 125), (1, 31), (2, 7776)]
def tbS : List (Nat × Nat) := tbS_0 ++ (tbS_1 ++ (tbS_2 ++ (tbS_3 ++ (tbS_4 ++ (tbS_5 ++ (tbS_6 ++ (tbS_7)))))))
def tbR_0 : List (List Nat) := [[], [], [], [], [], [], [], [], [9, 210, 411, 417, 419, 424, 427, 430, 431], [10, 16, 17, 18, 19, 20, 21, 24, 27, 0, 0, 0, 0], [11, 12, 13, 14, 15, 0, 0, 0, 0, 0], [], [], [], [], [], [30, 36, 42, 48, 54, 60, 66, 72, 78, 84, 90, 96, 102, 108, 114, 120, 126, 132, 138, 144, 150, 156, 162, 168, 174, 180, 186, 192, 198, 204], [0, 0, 0, 0], [], [], [], [22, 23, 0], [], [], [25, 26, 0], [], [], [28, 29, 0], [], [], [31, 32, 33, 34, 35, 0, 0, 0, 0, 0], [], [], [], [], [], [37, 38, 39, 40, 41, 0, 0, 0, 0, 0], [], [], [], [], [], [43, 44, 45, 46, 47, 0, 0, 0, 0, 0], [], [], [], [], [], [49, 50, 51, 52, 53, 0, 0, 0, 0, 0], [], [], [], [], [], [55, 56, 57, 58, 59, 0, 0, 0, 0, 0], [], [], [], [], []]
def tbR_1 : List (List Nat) := [[61, 62, 63, 64, 65, 0, 0, 0, 0, 0], [], [], [], [], [], [67, 68, 69, 70, 71, 0, 0, 0, 0, 0], [], [], [], [], [], [73, 74, 75, 76, 77, 0, 0, 0, 0, 0], [], [], [], [], [], [79, 80, 81, 82, 83, 0, 0, 0, 0, 0], [], [], [], [], [], [85, 86, 87, 88, 89, 0, 0, 0, 0, 0], [], [], [], [], [], [91, 92, 93, 94, 95, 0, 0, 0, 0, 0], [], [], [], [], [], [97, 98, 99, 100, 101, 0, 0, 0, 0, 0], [], [], [], [], [], [103, 104, 105, 106, 107, 0, 0, 0, 0, 0], [], [], [], [], [], [109, 110, 111, 112, 113, 0, 0, 0, 0, 0], [], [], [], [], [], [115, 116, 117, 118, 119, 0, 0, 0, 0, 0], [], [], [], [], []]
def tbR_2 : List (List Nat) := [[121, 122, 123, 124, 125, 0, 0, 0, 0, 0], [], [], [], [], [], [127, 128, 129, 130, 131, 0, 0, 0, 0, 0], [], [], [], [], [], [133, 134, 135, 136, 137, 0, 0, 0, 0, 0], [], [], [], [], [], [139, 140, 141, 142, 143, 0, 0, 0, 0, 0], [], [], [], [], [], [145, 146, 147, 148, 149, 0, 0, 0, 0, 0], [], [], [], [], [], [151, 152, 153, 154, 155, 0, 0, 0, 0, 0], [], [], [], [], [], [157, 158, 159, 160, 161, 0, 0, 0, 0, 0], [], [], [], [], [], [163, 164, 165, 166, 167, 0, 0, 0, 0, 0], [], [], [], [], [], [169, 170, 171, 172, 173, 0, 0, 0, 0, 0], [], [], [], [], [], [175, 176, 177, 178, 179, 0, 0, 0, 0, 0], [], [], [], [], []]
def tbR_3 : List (List Nat) := [[181, 182, 183, 184, 185, 0, 0, 0, 0, 0], [], [], [], [], [], [187, 188, 189, 190, 191, 0, 0, 0, 0, 0], [], [], [], [], [], [193, 194, 195, 196, 197, 0, 0, 0, 0, 0], [], [], [], [], [], [199, 200, 201, 202, 203, 0, 0, 0, 0, 0], [], [], [], [], [], [205, 206, 207, 208, 209, 0, 0, 0, 0, 0], [], [], [], [], [], [211, 217, 218, 219, 220, 221, 222, 225, 228, 0, 0, 0, 0], [212, 213, 214, 215, 216, 0, 0, 0, 0, 0], [], [], [], [], [], [231, 237, 243, 249, 255, 261, 267, 273, 279, 285, 291, 297, 303, 309, 315, 321, 327, 333, 339, 345, 351, 357, 363, 369, 375, 381, 387, 393, 399, 405], [0, 0, 0, 0], [], [], [], [223, 224, 0], [], [], [226, 227, 0], [], [], [229, 230, 0], [], [], [232, 233, 234, 235, 236, 0, 0, 0, 0, 0], [], [], [], [], [], [238, 239, 240, 241, 242, 0, 0, 0, 0, 0], [], []]
def tbR_4 : List (List Nat) := [[], [], [], [244, 245, 246, 247, 248, 0, 0, 0, 0, 0], [], [], [], [], [], [250, 251, 252, 253, 254, 0, 0, 0, 0, 0], [], [], [], [], [], [256, 257, 258, 259, 260, 0, 0, 0, 0, 0], [], [], [], [], [], [262, 263, 264, 265, 266, 0, 0, 0, 0, 0], [], [], [], [], [], [268, 269, 270, 271, 272, 0, 0, 0, 0, 0], [], [], [], [], [], [274, 275, 276, 277, 278, 0, 0, 0, 0, 0], [], [], [], [], [], [280, 281, 282, 283, 284, 0, 0, 0, 0, 0], [], [], [], [], [], [286, 287, 288, 289, 290, 0, 0, 0, 0, 0], [], [], [], [], [], [292, 293, 294, 295, 296, 0, 0, 0, 0, 0], [], [], [], [], [], [298, 299, 300, 301, 302, 0, 0, 0, 0, 0], [], []]
def tbR_5 : List (List Nat) := [[], [], [], [304, 305, 306, 307, 308, 0, 0, 0, 0, 0], [], [], [], [], [], [310, 311, 312, 313, 314, 0, 0, 0, 0, 0], [], [], [], [], [], [316, 317, 318, 319, 320, 0, 0, 0, 0, 0], [], [], [], [], [], [322, 323, 324, 325, 326, 0, 0, 0, 0, 0], [], [], [], [], [], [328, 329, 330, 331, 332, 0, 0, 0, 0, 0], [], [], [], [], [], [334, 335, 336, 337, 338, 0, 0, 0, 0, 0], [], [], [], [], [], [340, 341, 342, 343, 344, 0, 0, 0, 0, 0], [], [], [], [], [], [346, 347, 348, 349, 350, 0, 0, 0, 0, 0], [], [], [], [], [], [352, 353, 354, 355, 356, 0, 0, 0, 0, 0], [], [], [], [], [], [358, 359, 360, 361, 362, 0, 0, 0, 0, 0], [], []]
def tbR_6 : List (List Nat) := [[], [], [], [364, 365, 366, 367, 368, 0, 0, 0, 0, 0], [], [], [], [], [], [370, 371, 372, 373, 374, 0, 0, 0, 0, 0], [], [], [], [], [], [376, 377, 378, 379, 380, 0, 0, 0, 0, 0], [], [], [], [], [], [382, 383, 384, 385, 386, 0, 0, 0, 0, 0], [], [], [], [], [], [388, 389, 390, 391, 392, 0, 0, 0, 0, 0], [], [], [], [], [], [394, 395, 396, 397, 398, 0, 0, 0, 0, 0], [], [], [], [], [], [400, 401, 402, 403, 404, 0, 0, 0, 0, 0], [], [], [], [], [], [406, 407, 408, 409, 410, 0, 0, 0, 0, 0], [], [], [], [], [], [412, 413, 414, 415, 416, 0, 0, 0, 0, 0], [], [], [], [], [], [418], [], [420, 0, 421, 422, 423, 0]]
def tbR_7 : List (List Nat) := [[], [], [], [], [419, 425, 426, 0, 0, 0, 0, 0, 0, 0, 0], [], [], [428, 429, 0, 0, 0, 0, 0, 0], [], [], [0, 0, 0, 0], [432, 433, 434, 0], [], [], [], [436, 437, 438, 439, 0, 0, 0, 0, 0, 0, 0, 0, 0, 0, 0, 440, 0, 0, 0, 0, 441, 442, 443, 0, 0, 444, 445, 446, 0, 0, 0, 447, 0, 0, 0, 0, 448, 449, 450], [], [], [], [], [], [], [], [], [], [], [], [], [], [], []]
def tbR : List (List Nat) := tbR_0 ++ (tbR_1 ++ (tbR_2 ++ (tbR_3 ++ (tbR_4 ++ (tbR_5 ++ (tbR_6 ++ (tbR_7)))))))
def S0 (a : Nat) : Nat × Nat := tbS.getD a (0, 0)
def R0 (a k : Nat) : Nat := (tbR.getD a []).getD k 0
/-- shapes and final references are as the constructors left them -/
def Fix (z : Zz) : Prop := (∀ a, 8 ≤ a → a < 451 → z.2.1 a = S0 a ∧ (a ≠ 17 → a ≠ 218 → ∀ k, k < 40 → z.1 a k = R0 a k)) ∧ 451 ≤ z.2.2.1 ∧ z.2.1 1 = (8, 23) ∧ z.2.1 2 = (28, 2) ∧ z.2.1 3 = (28, 2) ∧ z.2.1 4 = (9, xn2) ∧ z.2.1 5 = (9, xn3) ∧ z.1 2 0 = 4 ∧ z.1 3 0 = 5
theorem fx_S {z : Zz} (F : Fix z) {a : Nat} {s : Nat × Nat} (h8 : 8 ≤ a) (h : a < 451) (e : S0 a = s) : z.2.1 a = s := (F.1 a h8 h).1.trans e
theorem fx_R {z : Zz} (F : Fix z) {a k r : Nat} (h8 : 8 ≤ a) (h : a < 451) (h1 : a ≠ 17) (h2 : a ≠ 218) (hk : k < 40) (e : R0 a k = r) : z.1 a k = r := ((F.1 a h8 h).2 h1 h2 k hk).trans e
def Tab (z : Zz) (t : Nat) : Prop := 8 ≤ t ∧ z.2.1 t = (23, 10) ∧ z.2.1 (t + 1) = (1, 6) ∧ z.2.1 (t + 2) = (1, 6) ∧ z.2.1 (t + 3) = (1, 6) ∧ z.2.1 (t + 4) = (1, 6) ∧ z.2.1 (t + 5) = (1, 25) ∧ z.1 t 0 = t + 1 ∧ z.1 t 1 = t + 2 ∧ z.1 t 2 = t + 3 ∧ z.1 t 3 = t + 4 ∧ z.1 t 4 = t + 5
def isT (t : Nat) : Bool := (t == 10) || (t == 211) || (t == 411) || (Nat.ble 30 t && Nat.blt t 210 && ((t - 30) % 6 == 0)) || (Nat.ble 231 t && Nat.blt t 411 && ((t - 231) % 6 == 0))
def isTb (t : Nat) : Bool := !(isT t) || (Nat.ble 8 t && Nat.blt t 440 && !(t == 17) && !(t == 218) && decide (S0 t = (23, 10)) && decide (S0 (t + 1) = (1, 6)) && decide (S0 (t + 2) = (1, 6)) && decide (S0 (t + 3) = (1, 6)) && decide (S0 (t + 4) = (1, 6)) && decide (S0 (t + 5) = (1, 25)) && (R0 t 0 == t + 1) && (R0 t 1 == t + 2) && (R0 t 2 == t + 3) && (R0 t 3 == t + 4) && (R0 t 4 == t + 5))
set_option maxRecDepth 100000 in
theorem isT_a : ∀ t, t < 446 → isTb t = true := by decide +kernel
theorem isT_0 (t : Nat) (ht : t < 446) (h : isT t = true) : 8 ≤ t ∧ t < 440 ∧ t ≠ 17 ∧ t ≠ 218 ∧ S0 t = (23, 10) ∧ S0 (t + 1) = (1, 6) ∧ S0 (t + 2) = (1, 6) ∧ S0 (t + 3) = (1, 6) ∧ S0 (t + 4) = (1, 6) ∧ S0 (t + 5) = (1, 25) ∧ R0 t 0 = t + 1 ∧ R0 t 1 = t + 2 ∧ R0 t 2 = t + 3 ∧ R0 t 3 = t + 4 ∧ R0 t 4 = t + 5 := by
  have q := isT_a t ht
  unfold isTb at q
  rw [h] at q
  simp only [Bool.not_true, Bool.false_or, Bool.and_eq_true, Nat.ble_eq, Nat.blt_eq, decide_eq_true_eq, beq_iff_eq, Bool.not_eq_true', beq_eq_false_iff_ne, ne_eq] at q
  obtain ⟨⟨⟨⟨⟨⟨⟨⟨⟨⟨⟨⟨⟨⟨a1, a2⟩, a3⟩, a4⟩, a5⟩, a6⟩, a7⟩, a8⟩, a9⟩, a10⟩, a11⟩, a12⟩, a13⟩, a14⟩, a15⟩ := q
  exact ⟨a1, a2, a3, a4, a5, a6, a7, a8, a9, a10, a11, a12, a13, a14, a15⟩
theorem isT_lt {t : Nat} (h : isT t = true) : t < 446 := by
  unfold isT at h
  simp only [Bool.or_eq_true, Bool.and_eq_true, beq_iff_eq] at h
  rcases h with (((h | h) | h) | h) | h
  · omega
  · omega
  · omega
  · have := Nat.blt_eq.mp h.1.2; omega
  · have := Nat.blt_eq.mp h.1.2; omega
theorem Fix.tab {z : Zz} (F : Fix z) {t : Nat} (h : isT t = true) : Tab z t := by
  obtain ⟨h8, h4, n1, n2, s0, s1, s2, s3, s4, s5, r0, r1, r2, r3, r4⟩ := isT_0 t (isT_lt h) h
  exact ⟨h8, fx_S F h8 (by omega) s0, fx_S F (by omega) (by omega) s1, fx_S F (by omega) (by omega) s2, fx_S F (by omega) (by omega) s3, fx_S F (by omega) (by omega) s4, fx_S F (by omega) (by omega) s5, fx_R F h8 (by omega) n1 n2 (by decide) r0, fx_R F h8 (by omega) n1 n2 (by decide) r1, fx_R F h8 (by omega) n1 n2 (by decide) r2, fx_R F h8 (by omega) n1 n2 (by decide) r3, fx_R F h8 (by omega) n1 n2 (by decide) r4⟩
theorem s_8 {z : Zz} (F : Fix z) : z.2.1 8 = (26, 9) := fx_S F (by decide) (by decide) rfl
theorem r_8_0 {z : Zz} (F : Fix z) : z.1 8 0 = 9 := fx_R F (by decide) (by decide) (by decide) (by decide) (by decide) rfl
theorem r_8_1 {z : Zz} (F : Fix z) : z.1 8 1 = 210 := fx_R F (by decide) (by decide) (by decide) (by decide) (by decide) rfl
theorem r_8_2 {z : Zz} (F : Fix z) : z.1 8 2 = 411 := fx_R F (by decide) (by decide) (by decide) (by decide) (by decide) rfl
theorem r_8_3 {z : Zz} (F : Fix z) : z.1 8 3 = 417 := fx_R F (by decide) (by decide) (by decide) (by decide) (by decide) rfl
theorem r_8_4 {z : Zz} (F : Fix z) : z.1 8 4 = 419 := fx_R F (by decide) (by decide) (by decide) (by decide) (by decide) rfl
theorem r_8_5 {z : Zz} (F : Fix z) : z.1 8 5 = 424 := fx_R F (by decide) (by decide) (by decide) (by decide) (by decide) rfl
theorem r_8_6 {z : Zz} (F : Fix z) : z.1 8 6 = 427 := fx_R F (by decide) (by decide) (by decide) (by decide) (by decide) rfl
theorem r_8_7 {z : Zz} (F : Fix z) : z.1 8 7 = 430 := fx_R F (by decide) (by decide) (by decide) (by decide) (by decide) rfl
theorem r_8_8 {z : Zz} (F : Fix z) : z.1 8 8 = 431 := fx_R F (by decide) (by decide) (by decide) (by decide) (by decide) rfl
theorem s_9 {z : Zz} (F : Fix z) : z.2.1 9 = (18, 13) := fx_S F (by decide) (by decide) rfl
theorem r_9_0 {z : Zz} (F : Fix z) : z.1 9 0 = 10 := fx_R F (by decide) (by decide) (by decide) (by decide) (by decide) rfl
theorem r_9_1 {z : Zz} (F : Fix z) : z.1 9 1 = 16 := fx_R F (by decide) (by decide) (by decide) (by decide) (by decide) rfl
theorem r_9_2 {z : Zz} (F : Fix z) : z.1 9 2 = 17 := fx_R F (by decide) (by decide) (by decide) (by decide) (by decide) rfl
theorem r_9_3 {z : Zz} (F : Fix z) : z.1 9 3 = 18 := fx_R F (by decide) (by decide) (by decide) (by decide) (by decide) rfl
theorem r_9_4 {z : Zz} (F : Fix z) : z.1 9 4 = 19 := fx_R F (by decide) (by decide) (by decide) (by decide) (by decide) rfl
theorem r_9_5 {z : Zz} (F : Fix z) : z.1 9 5 = 20 := fx_R F (by decide) (by decide) (by decide) (by decide) (by decide) rfl
theorem r_9_6 {z : Zz} (F : Fix z) : z.1 9 6 = 21 := fx_R F (by decide) (by decide) (by decide) (by decide) (by decide) rfl
theorem r_9_7 {z : Zz} (F : Fix z) : z.1 9 7 = 24 := fx_R F (by decide) (by decide) (by decide) (by decide) (by decide) rfl
theorem r_9_8 {z : Zz} (F : Fix z) : z.1 9 8 = 27 := fx_R F (by decide) (by decide) (by decide) (by decide) (by decide) rfl
theorem s_16 {z : Zz} (F : Fix z) : z.2.1 16 = (5, 30) := fx_S F (by decide) (by decide) rfl
theorem s_17 {z : Zz} (F : Fix z) : z.2.1 17 = (6, 4) := fx_S F (by decide) (by decide) rfl
theorem s_18 {z : Zz} (F : Fix z) : z.2.1 18 = (1, 36) := fx_S F (by decide) (by decide) rfl
theorem s_19 {z : Zz} (F : Fix z) : z.2.1 19 = (1, 36) := fx_S F (by decide) (by decide) rfl
theorem s_20 {z : Zz} (F : Fix z) : z.2.1 20 = (1, 8) := fx_S F (by decide) (by decide) rfl
theorem s_21 {z : Zz} (F : Fix z) : z.2.1 21 = (19, 3) := fx_S F (by decide) (by decide) rfl
theorem r_21_0 {z : Zz} (F : Fix z) : z.1 21 0 = 22 := fx_R F (by decide) (by decide) (by decide) (by decide) (by decide) rfl
theorem r_21_1 {z : Zz} (F : Fix z) : z.1 21 1 = 23 := fx_R F (by decide) (by decide) (by decide) (by decide) (by decide) rfl
theorem s_22 {z : Zz} (F : Fix z) : z.2.1 22 = (1, 6) := fx_S F (by decide) (by decide) rfl
theorem s_23 {z : Zz} (F : Fix z) : z.2.1 23 = (1, 6) := fx_S F (by decide) (by decide) rfl
theorem s_24 {z : Zz} (F : Fix z) : z.2.1 24 = (19, 3) := fx_S F (by decide) (by decide) rfl
theorem r_24_0 {z : Zz} (F : Fix z) : z.1 24 0 = 25 := fx_R F (by decide) (by decide) (by decide) (by decide) (by decide) rfl
theorem r_24_1 {z : Zz} (F : Fix z) : z.1 24 1 = 26 := fx_R F (by decide) (by decide) (by decide) (by decide) (by decide) rfl
theorem s_25 {z : Zz} (F : Fix z) : z.2.1 25 = (1, 8) := fx_S F (by decide) (by decide) rfl
theorem s_26 {z : Zz} (F : Fix z) : z.2.1 26 = (1, 8) := fx_S F (by decide) (by decide) rfl
theorem s_27 {z : Zz} (F : Fix z) : z.2.1 27 = (19, 3) := fx_S F (by decide) (by decide) rfl
theorem r_27_0 {z : Zz} (F : Fix z) : z.1 27 0 = 28 := fx_R F (by decide) (by decide) (by decide) (by decide) (by decide) rfl
theorem r_27_1 {z : Zz} (F : Fix z) : z.1 27 1 = 29 := fx_R F (by decide) (by decide) (by decide) (by decide) (by decide) rfl
theorem s_28 {z : Zz} (F : Fix z) : z.2.1 28 = (1, 8) := fx_S F (by decide) (by decide) rfl
theorem s_29 {z : Zz} (F : Fix z) : z.2.1 29 = (1, 8) := fx_S F (by decide) (by decide) rfl
theorem s_210 {z : Zz} (F : Fix z) : z.2.1 210 = (18, 13) := fx_S F (by decide) (by decide) rfl
theorem r_210_0 {z : Zz} (F : Fix z) : z.1 210 0 = 211 := fx_R F (by decide) (by decide) (by decide) (by decide) (by decide) rfl
theorem r_210_1 {z : Zz} (F : Fix z) : z.1 210 1 = 217 := fx_R F (by decide) (by decide) (by decide) (by decide) (by decide) rfl
theorem r_210_2 {z : Zz} (F : Fix z) : z.1 210 2 = 218 := fx_R F (by decide) (by decide) (by decide) (by decide) (by decide) rfl
theorem r_210_3 {z : Zz} (F : Fix z) : z.1 210 3 = 219 := fx_R F (by decide) (by decide) (by decide) (by decide) (by decide) rfl
theorem r_210_4 {z : Zz} (F : Fix z) : z.1 210 4 = 220 := fx_R F (by decide) (by decide) (by decide) (by decide) (by decide) rfl
theorem r_210_5 {z : Zz} (F : Fix z) : z.1 210 5 = 221 := fx_R F (by decide) (by decide) (by decide) (by decide) (by decide) rfl
theorem r_210_6 {z : Zz} (F : Fix z) : z.1 210 6 = 222 := fx_R F (by decide) (by decide) (by decide) (by decide) (by decide) rfl
theorem r_210_7 {z : Zz} (F : Fix z) : z.1 210 7 = 225 := fx_R F (by decide) (by decide) (by decide) (by decide) (by decide) rfl
theorem r_210_8 {z : Zz} (F : Fix z) : z.1 210 8 = 228 := fx_R F (by decide) (by decide) (by decide) (by decide) (by decide) rfl
theorem s_217 {z : Zz} (F : Fix z) : z.2.1 217 = (5, 30) := fx_S F (by decide) (by decide) rfl
theorem s_218 {z : Zz} (F : Fix z) : z.2.1 218 = (6, 4) := fx_S F (by decide) (by decide) rfl
theorem s_219 {z : Zz} (F : Fix z) : z.2.1 219 = (1, 36) := fx_S F (by decide) (by decide) rfl
theorem s_220 {z : Zz} (F : Fix z) : z.2.1 220 = (1, 36) := fx_S F (by decide) (by decide) rfl
theorem s_221 {z : Zz} (F : Fix z) : z.2.1 221 = (1, 8) := fx_S F (by decide) (by decide) rfl
theorem s_222 {z : Zz} (F : Fix z) : z.2.1 222 = (19, 3) := fx_S F (by decide) (by decide) rfl
theorem r_222_0 {z : Zz} (F : Fix z) : z.1 222 0 = 223 := fx_R F (by decide) (by decide) (by decide) (by decide) (by decide) rfl
theorem r_222_1 {z : Zz} (F : Fix z) : z.1 222 1 = 224 := fx_R F (by decide) (by decide) (by decide) (by decide) (by decide) rfl
theorem s_223 {z : Zz} (F : Fix z) : z.2.1 223 = (1, 6) := fx_S F (by decide) (by decide) rfl
theorem s_224 {z : Zz} (F : Fix z) : z.2.1 224 = (1, 6) := fx_S F (by decide) (by decide) rfl
theorem s_225 {z : Zz} (F : Fix z) : z.2.1 225 = (19, 3) := fx_S F (by decide) (by decide) rfl
theorem r_225_0 {z : Zz} (F : Fix z) : z.1 225 0 = 226 := fx_R F (by decide) (by decide) (by decide) (by decide) (by decide) rfl
theorem r_225_1 {z : Zz} (F : Fix z) : z.1 225 1 = 227 := fx_R F (by decide) (by decide) (by decide) (by decide) (by decide) rfl
theorem s_226 {z : Zz} (F : Fix z) : z.2.1 226 = (1, 8) := fx_S F (by decide) (by decide) rfl
theorem s_227 {z : Zz} (F : Fix z) : z.2.1 227 = (1, 8) := fx_S F (by decide) (by decide) rfl
theorem s_228 {z : Zz} (F : Fix z) : z.2.1 228 = (19, 3) := fx_S F (by decide) (by decide) rfl
theorem r_228_0 {z : Zz} (F : Fix z) : z.1 228 0 = 229 := fx_R F (by decide) (by decide) (by decide) (by decide) (by decide) rfl
theorem r_228_1 {z : Zz} (F : Fix z) : z.1 228 1 = 230 := fx_R F (by decide) (by decide) (by decide) (by decide) (by decide) rfl
theorem s_229 {z : Zz} (F : Fix z) : z.2.1 229 = (1, 8) := fx_S F (by decide) (by decide) rfl
theorem s_230 {z : Zz} (F : Fix z) : z.2.1 230 = (1, 8) := fx_S F (by decide) (by decide) rfl
theorem s_417 {z : Zz} (F : Fix z) : z.2.1 417 = (16, 1) := fx_S F (by decide) (by decide) rfl
theorem r_417_0 {z : Zz} (F : Fix z) : z.1 417 0 = 418 := fx_R F (by decide) (by decide) (by decide) (by decide) (by decide) rfl
theorem s_418 {z : Zz} (F : Fix z) : z.2.1 418 = (1, 300) := fx_S F (by decide) (by decide) rfl
theorem s_419 {z : Zz} (F : Fix z) : z.2.1 419 = (24, 6) := fx_S F (by decide) (by decide) rfl
theorem r_419_0 {z : Zz} (F : Fix z) : z.1 419 0 = 420 := fx_R F (by decide) (by decide) (by decide) (by decide) (by decide) rfl
theorem r_419_2 {z : Zz} (F : Fix z) : z.1 419 2 = 421 := fx_R F (by decide) (by decide) (by decide) (by decide) (by decide) rfl
theorem r_419_3 {z : Zz} (F : Fix z) : z.1 419 3 = 422 := fx_R F (by decide) (by decide) (by decide) (by decide) (by decide) rfl
theorem r_419_4 {z : Zz} (F : Fix z) : z.1 419 4 = 423 := fx_R F (by decide) (by decide) (by decide) (by decide) (by decide) rfl
theorem s_420 {z : Zz} (F : Fix z) : z.2.1 420 = (1, 300) := fx_S F (by decide) (by decide) rfl
theorem s_421 {z : Zz} (F : Fix z) : z.2.1 421 = (1, 301) := fx_S F (by decide) (by decide) rfl
theorem s_422 {z : Zz} (F : Fix z) : z.2.1 422 = (1, 301) := fx_S F (by decide) (by decide) rfl
theorem s_423 {z : Zz} (F : Fix z) : z.2.1 423 = (1, 301) := fx_S F (by decide) (by decide) rfl
theorem s_424 {z : Zz} (F : Fix z) : z.2.1 424 = (20, 11) := fx_S F (by decide) (by decide) rfl
theorem r_424_0 {z : Zz} (F : Fix z) : z.1 424 0 = 419 := fx_R F (by decide) (by decide) (by decide) (by decide) (by decide) rfl
theorem r_424_1 {z : Zz} (F : Fix z) : z.1 424 1 = 425 := fx_R F (by decide) (by decide) (by decide) (by decide) (by decide) rfl
theorem r_424_2 {z : Zz} (F : Fix z) : z.1 424 2 = 426 := fx_R F (by decide) (by decide) (by decide) (by decide) (by decide) rfl
theorem s_425 {z : Zz} (F : Fix z) : z.2.1 425 = (1, 72) := fx_S F (by decide) (by decide) rfl
theorem s_426 {z : Zz} (F : Fix z) : z.2.1 426 = (1, 301) := fx_S F (by decide) (by decide) rfl
theorem s_427 {z : Zz} (F : Fix z) : z.2.1 427 = (21, 8) := fx_S F (by decide) (by decide) rfl
theorem r_427_0 {z : Zz} (F : Fix z) : z.1 427 0 = 428 := fx_R F (by decide) (by decide) (by decide) (by decide) (by decide) rfl
theorem r_427_1 {z : Zz} (F : Fix z) : z.1 427 1 = 429 := fx_R F (by decide) (by decide) (by decide) (by decide) (by decide) rfl
theorem s_428 {z : Zz} (F : Fix z) : z.2.1 428 = (1, 6) := fx_S F (by decide) (by decide) rfl
theorem s_429 {z : Zz} (F : Fix z) : z.2.1 429 = (1, 6) := fx_S F (by decide) (by decide) rfl
theorem s_430 {z : Zz} (F : Fix z) : z.2.1 430 = (17, 4) := fx_S F (by decide) (by decide) rfl
theorem s_431 {z : Zz} (F : Fix z) : z.2.1 431 = (22, 4) := fx_S F (by decide) (by decide) rfl
theorem r_431_0 {z : Zz} (F : Fix z) : z.1 431 0 = 432 := fx_R F (by decide) (by decide) (by decide) (by decide) (by decide) rfl
theorem r_431_1 {z : Zz} (F : Fix z) : z.1 431 1 = 433 := fx_R F (by decide) (by decide) (by decide) (by decide) (by decide) rfl
theorem r_431_2 {z : Zz} (F : Fix z) : z.1 431 2 = 434 := fx_R F (by decide) (by decide) (by decide) (by decide) (by decide) rfl
theorem s_432 {z : Zz} (F : Fix z) : z.2.1 432 = (1, 125) := fx_S F (by decide) (by decide) rfl
theorem s_433 {z : Zz} (F : Fix z) : z.2.1 433 = (1, 125) := fx_S F (by decide) (by decide) rfl
theorem s_434 {z : Zz} (F : Fix z) : z.2.1 434 = (1, 31) := fx_S F (by decide) (by decide) rfl
theorem s_435 {z : Zz} (F : Fix z) : z.2.1 435 = (27, 39) := fx_S F (by decide) (by decide) rfl
theorem r_435_0 {z : Zz} (F : Fix z) : z.1 435 0 = 436 := fx_R F (by decide) (by decide) (by decide) (by decide) (by decide) rfl
theorem r_435_1 {z : Zz} (F : Fix z) : z.1 435 1 = 437 := fx_R F (by decide) (by decide) (by decide) (by decide) (by decide) rfl
theorem r_435_2 {z : Zz} (F : Fix z) : z.1 435 2 = 438 := fx_R F (by decide) (by decide) (by decide) (by decide) (by decide) rfl
theorem r_435_3 {z : Zz} (F : Fix z) : z.1 435 3 = 439 := fx_R F (by decide) (by decide) (by decide) (by decide) (by decide) rfl
theorem r_435_15 {z : Zz} (F : Fix z) : z.1 435 15 = 440 := fx_R F (by decide) (by decide) (by decide) (by decide) (by decide) rfl
theorem r_435_20 {z : Zz} (F : Fix z) : z.1 435 20 = 441 := fx_R F (by decide) (by decide) (by decide) (by decide) (by decide) rfl
theorem r_435_21 {z : Zz} (F : Fix z) : z.1 435 21 = 442 := fx_R F (by decide) (by decide) (by decide) (by decide) (by decide) rfl
theorem r_435_22 {z : Zz} (F : Fix z) : z.1 435 22 = 443 := fx_R F (by decide) (by decide) (by decide) (by decide) (by decide) rfl
theorem r_435_25 {z : Zz} (F : Fix z) : z.1 435 25 = 444 := fx_R F (by decide) (by decide) (by decide) (by decide) (by decide) rfl
theorem r_435_26 {z : Zz} (F : Fix z) : z.1 435 26 = 445 := fx_R F (by decide) (by decide) (by decide) (by decide) (by decide) rfl
theorem r_435_27 {z : Zz} (F : Fix z) : z.1 435 27 = 446 := fx_R F (by decide) (by decide) (by decide) (by decide) (by decide) rfl
theorem r_435_31 {z : Zz} (F : Fix z) : z.1 435 31 = 447 := fx_R F (by decide) (by decide) (by decide) (by decide) (by decide) rfl
theorem r_435_36 {z : Zz} (F : Fix z) : z.1 435 36 = 448 := fx_R F (by decide) (by decide) (by decide) (by decide) (by decide) rfl
theorem r_435_37 {z : Zz} (F : Fix z) : z.1 435 37 = 449 := fx_R F (by decide) (by decide) (by decide) (by decide) (by decide) rfl
theorem r_435_38 {z : Zz} (F : Fix z) : z.1 435 38 = 450 := fx_R F (by decide) (by decide) (by decide) (by decide) (by decide) rfl
theorem s_436 {z : Zz} (F : Fix z) : z.2.1 436 = (1, 1450) := fx_S F (by decide) (by decide) rfl
theorem s_437 {z : Zz} (F : Fix z) : z.2.1 437 = (1, 1450) := fx_S F (by decide) (by decide) rfl
theorem s_438 {z : Zz} (F : Fix z) : z.2.1 438 = (1, 2724) := fx_S F (by decide) (by decide) rfl
theorem s_439 {z : Zz} (F : Fix z) : z.2.1 439 = (1, 300) := fx_S F (by decide) (by decide) rfl
theorem s_440 {z : Zz} (F : Fix z) : z.2.1 440 = (1, 160) := fx_S F (by decide) (by decide) rfl
theorem s_441 {z : Zz} (F : Fix z) : z.2.1 441 = (1, 7) := fx_S F (by decide) (by decide) rfl
theorem s_442 {z : Zz} (F : Fix z) : z.2.1 442 = (3, 330) := fx_S F (by decide) (by decide) rfl
theorem s_443 {z : Zz} (F : Fix z) : z.2.1 443 = (2, 330) := fx_S F (by decide) (by decide) rfl
theorem s_444 {z : Zz} (F : Fix z) : z.2.1 444 = (1, 23) := fx_S F (by decide) (by decide) rfl
theorem s_445 {z : Zz} (F : Fix z) : z.2.1 445 = (1, 6) := fx_S F (by decide) (by decide) rfl
theorem s_446 {z : Zz} (F : Fix z) : z.2.1 446 = (1, 6) := fx_S F (by decide) (by decide) rfl
theorem s_447 {z : Zz} (F : Fix z) : z.2.1 447 = (2, 144) := fx_S F (by decide) (by decide) rfl
theorem s_448 {z : Zz} (F : Fix z) : z.2.1 448 = (1, 125) := fx_S F (by decide) (by decide) rfl
theorem s_449 {z : Zz} (F : Fix z) : z.2.1 449 = (1, 31) := fx_S F (by decide) (by decide) rfl
theorem s_450 {z : Zz} (F : Fix z) : z.2.1 450 = (2, 7776) := fx_S F (by decide) (by decide) rfl
