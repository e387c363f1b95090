/-! printed by wip/gen/emit_ctor.py: constructors on lists -/
section
variable {b h : Mem} {T : TS}
def tAsker (x : Nat) (T : TS) : Option TS :=
  (tPR (tA T 1 300) 0 0 x (tN T)).bind fun T => some T
theorem k_Asker (r : Rep b h T) {x : Nat} (hx : 0 < x) (hS : (mS h x).1 = 16) : OkO b (cA m_Asker_new [.ref x] h) (tAsker x T) := by
  rw [q_Asker_new]
  refine k_grd hS hx ?_
  refine k_nwA (g := fun a T => (tPR T 0 0 x a).bind _) r rfl (by decide) fun h r => ?_
  refine k_pfR r fun h T r _ => ?_
  exact k_end r
def tReader (x y : Nat) (T : TS) : Option TS :=
  (tPR (tA T 1 72) 4 1 x (tN T)).bind fun T => (tPR (tA T 1 301) 4 2 x (tN T)).bind fun T => (tPI T 4 9 x (-1)).bind fun T => (tPI T 4 10 x (-1)).bind fun T => (tPR T 4 0 x y).bind fun T => some T
theorem k_Reader (r : Rep b h T) {x y : Nat} (hx : 0 < x) (hS : (mS h x).1 = 20) : OkO b (cA m_Reader_new [.ref x, .ref y] h) (tReader x y T) := by
  rw [q_Reader_new]
  refine k_grd hS hx ?_
  refine k_nwA (g := fun a T => (tPR T 4 1 x a).bind _) r rfl (by decide) fun h r => ?_
  refine k_pfR r fun h T r _ => ?_
  refine k_nwA (g := fun a T => (tPR T 4 2 x a).bind _) r rfl (by decide) fun h r => ?_
  refine k_pfR r fun h T r _ => ?_
  refine k_pfI r fun h T r _ => ?_
  refine k_pfI r fun h T r _ => ?_
  refine k_pfR r fun h T r _ => ?_
  exact k_end r
def tRounds (x : Nat) (T : TS) : Option TS :=
  (tPR (tA T 1 6) 5 0 x (tN T)).bind fun T => (tPR (tA T 1 6) 5 1 x (tN T)).bind fun T => some T
theorem k_Rounds (r : Rep b h T) {x : Nat} (hx : 0 < x) (hS : (mS h x).1 = 21) : OkO b (cA m_Rounds_new [.ref x] h) (tRounds x T) := by
  rw [q_Rounds_new]
  refine k_grd hS hx ?_
  refine k_nwA (g := fun a T => (tPR T 5 0 x a).bind _) r rfl (by decide) fun h r => ?_
  refine k_pfR r fun h T r _ => ?_
  refine k_nwA (g := fun a T => (tPR T 5 1 x a).bind _) r rfl (by decide) fun h r => ?_
  refine k_pfR r fun h T r _ => ?_
  exact k_end r
def tTape (x : Nat) (T : TS) : Option TS :=
  (tPR (tA T 1 300) 8 0 x (tN T)).bind fun T => (tPR (tA T 1 301) 8 2 x (tN T)).bind fun T => (tPR (tA T 1 301) 8 3 x (tN T)).bind fun T => (tPR (tA T 1 301) 8 4 x (tN T)).bind fun T => some T
theorem k_Tape (r : Rep b h T) {x : Nat} (hx : 0 < x) (hS : (mS h x).1 = 24) : OkO b (cA m_Tape_new [.ref x] h) (tTape x T) := by
  rw [q_Tape_new]
  refine k_grd hS hx ?_
  refine k_nwA (g := fun a T => (tPR T 8 0 x a).bind _) r rfl (by decide) fun h r => ?_
  refine k_pfR r fun h T r _ => ?_
  refine k_nwA (g := fun a T => (tPR T 8 2 x a).bind _) r rfl (by decide) fun h r => ?_
  refine k_pfR r fun h T r _ => ?_
  refine k_nwA (g := fun a T => (tPR T 8 3 x a).bind _) r rfl (by decide) fun h r => ?_
  refine k_pfR r fun h T r _ => ?_
  refine k_nwA (g := fun a T => (tPR T 8 4 x a).bind _) r rfl (by decide) fun h r => ?_
  refine k_pfR r fun h T r _ => ?_
  exact k_end r
theorem k_max {n : Nat} {i : Int32} {F : Int32 → Mem → Rs} {o : Option TS} (hi : 0 ≤ i) (hf : OkO b (F i h) o) : OkO b (bnI (cA m_Math_max [.int i, .int 0] h) F) o := by
  rw [q_Math_max, if_pos hi]
  exact hf
def tPairs (x n : Nat) (T : TS) : Option TS :=
  (tPR (tA T 1 n) 3 0 x (tN T)).bind fun T => (tPR (tA T 1 n) 3 1 x (tN T)).bind fun T => some T
theorem k_Pairs (r : Rep b h T) {x n : Nat} {i : Int32} (hi : i.toInt = n) (h0 : 0 ≤ i) (hn : n ≤ 100000) (hx : 0 < x) (hS : (mS h x).1 = 19) : OkO b (cA m_Pairs_new [.ref x, .int i] h) (tPairs x n T) := by
  rw [q_Pairs_new]
  refine k_grd hS hx ?_
  refine k_max (n := n) h0 ?_
  refine k_nwA (g := fun a T => (tPR T 3 0 x a).bind _) r hi hn fun h r => ?_
  refine k_pfR r fun h T r _ => ?_
  refine k_max (n := n) h0 ?_
  refine k_nwA (g := fun a T => (tPR T 3 1 x a).bind _) r hi hn fun h r => ?_
  refine k_pfR r fun h T r _ => ?_
  exact k_end r
theorem k_Flier (r : Rep b h T) {x : Nat} (hx : 0 < x) (hS : (mS h x).1 = 17) : OkO b (cA m_Flier_new [.ref x] h) (some T) := by
  rw [q_Flier_new]
  exact k_grd hS hx (k_end r)
/-- a new object and its maker -/
theorem k_obj (r : Rep b h T) {k n : Nat} : (mS (mk h k n) (tN T)).1 = k ∧ 0 < tN T := by
  refine ⟨?_, by unfold tN; omega⟩
  rw [← r.1]
  show (va_up (mS h) (mN h) (k, n) (mN h)).1 = k
  rw [va_up_s]
end
