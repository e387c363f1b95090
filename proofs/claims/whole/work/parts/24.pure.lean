/-! small methods without memory -/
def bI (p : Prop) [Decidable p] : Int32 := if p then 1 else 0
theorem bI_t {p : Prop} [Decidable p] (h : p) : bI p = 1 := if_pos h
theorem bI_f {p : Prop} [Decidable p] (h : ¬ p) : bI p = 0 := if_neg h
theorem rt_b {p : Prop} [Decidable p] {h : Mem} : rtN 1 (bI p) h = some (.int (bI p), h) := by
  by_cases q : p
  · rw [bI_t q]; rfl
  · rw [bI_f q]; rfl
theorem bI_0 {p : Prop} [Decidable p] : (bI p = 0) = ¬ p := by
  by_cases q : p
  · rw [bI_t q]; simp [q]
  · rw [bI_f q]; simp [q]
theorem if_b {α : Type} {p : Prop} [Decidable p] {x y : α} : (if bI p = 0 then x else y) = if p then y else x := by
  by_cases q : p
  · rw [bI_t q, if_pos q, if_neg (by decide)]
  · rw [bI_f q, if_neg q, if_pos rfl]
section
variable {I : Nat → Nat → Int32} {J : Nat → Nat → Int64} {z : Zz}
theorem s_within (v lo hi : Int32) (h : Mem) : cA m_X_within [.int v, .int lo, .int hi] h = some (.int (bI (lo ≤ v ∧ v ≤ hi)), h) := by
  rw [q_X_within]
  by_cases h1 : lo ≤ v
  · by_cases h2 : v ≤ hi
    · rw [if_pos h1, if_pos h2, bI_t ⟨h1, h2⟩]; rfl
    · rw [if_pos h1, if_neg h2, bI_f (fun q => h2 q.2)]; rfl
  · rw [if_neg h1, bI_f (fun q => h1 q.1)]; rfl
theorem s_isIn (v lo hi : Int32) (h : Mem) : cA m_M_isIn [.int v, .int lo, .int hi] h = some (.int (bI (lo ≤ v ∧ v ≤ hi)), h) := by
  rw [q_M_isIn]
  by_cases h1 : lo ≤ v
  · by_cases h2 : v ≤ hi
    · rw [if_pos h1, if_pos h2, bI_t ⟨h1, h2⟩]; rfl
    · rw [if_pos h1, if_neg h2, bI_f (fun q => h2 q.2)]; rfl
  · rw [if_neg h1, bI_f (fun q => h1 q.1)]; rfl
theorem le0_toInt {i : Int32} : (0 ≤ i) ↔ 0 ≤ i.toInt := by rw [Int32.le_iff_toInt_le]; rfl
theorem lt_nI {i : Int32} {n : Nat} (hn : n < 2 ^ 31) : (i < Int32.ofNat n) ↔ i.toInt < n := by
  rw [Int32.lt_iff_toInt_lt, show (Int32.ofNat n).toInt = (n : Int) from nI_toInt hn]
theorem s_get {a n : Nat} (hs : z.2.1 a = (1, n)) (hn : n < 2 ^ 31) (i : Int32) : cA m_X_get [.ref a, .int i] (I, J, z) = some (.int (if 0 ≤ i.toInt ∧ i.toInt < n then I a i.toNatClampNeg else 0), (I, J, z)) := by
  rw [q_X_get]
  by_cases h1 : 0 ≤ i.toInt
  · rw [if_pos (le0_toInt.mpr h1), alN_z hs rfl]
    by_cases h2 : i.toInt < n
    · rw [if_pos ((lt_nI hn).mpr h2), ldI_z hs ⟨h1, h2⟩, if_pos ⟨h1, h2⟩]
    · rw [if_neg (fun q => h2 ((lt_nI hn).mp q)), if_neg (fun q => h2 q.2)]
  · rw [if_neg (fun q => h1 (le0_toInt.mp q)), if_neg (fun q => h1 q.1)]
theorem s_get_n {a n k : Nat} (hs : z.2.1 a = (1, n)) (hn : n < 2 ^ 31) (hk : k < n) : cA m_X_get [.ref a, .int (nI k)] (I, J, z) = some (.int (I a k), (I, J, z)) := by
  rw [s_get hs hn, if_pos (ibn hk hn), nI_clamp (by omega)]
theorem s_put {a n : Nat} (hs : z.2.1 a = (1, n)) (hn : n < 2 ^ 31) (i x : Int32) : cA m_X_put [.ref a, .int i, .int x] (I, J, z) = some (.null, (if 0 ≤ i.toInt ∧ i.toInt < n then stt I a i.toNatClampNeg x else I, J, z)) := by
  rw [q_X_put]
  by_cases h1 : 0 ≤ i.toInt
  · rw [if_pos (le0_toInt.mpr h1), alN_z hs rfl]
    by_cases h2 : i.toInt < n
    · rw [if_pos ((lt_nI hn).mpr h2), stI_z hs ⟨h1, h2⟩, if_pos ⟨h1, h2⟩]
    · rw [if_neg (fun q => h2 ((lt_nI hn).mp q)), if_neg (fun q => h2 q.2)]
  · rw [if_neg (fun q => h1 (le0_toInt.mp q)), if_neg (fun q => h1 q.1)]
theorem s_put_n {a n k : Nat} (hs : z.2.1 a = (1, n)) (hn : n < 2 ^ 31) (hk : k < n) (x : Int32) : cA m_X_put [.ref a, .int (nI k), .int x] (I, J, z) = some (.null, (stt I a k x, J, z)) := by
  rw [s_put hs hn, if_pos (ibn hk hn), nI_clamp (by omega)]
theorem s_has {t : Nat} (T : Tab z t) (i : Int32) : cA m_Table_has [.ref t, .int i] (I, J, z) = some (.int (bI (0 ≤ i ∧ i < I t 5)), (I, J, z)) := by
  rw [q_Table_has, grd_z T.2.1]
  by_cases h1 : 0 ≤ i
  · rw [if_pos h1, gfI_z T.2.1]
    by_cases h2 : i < I t 5
    · rw [if_pos h2, bI_t ⟨h1, h2⟩]; rfl
    · rw [if_neg h2, bI_f (fun q => h2 q.2)]; rfl
  · rw [if_neg h1, bI_f (fun q => h1 q.1)]; rfl
end
