/-! what counts of a memory, and what class and model have to do with one another -/
/-- a cell that no later call looks at -/
def scr (a : Nat) (k : Int) : Bool := decide ((411 ≤ a ∧ a ≤ 418) ∨ (421 ≤ a ∧ a ≤ 423) ∨ (425 ≤ a ∧ a ≤ 431) ∨ a = 433 ∨ a = 434 ∨ (440 ≤ a ∧ a ≤ 450) ∨ (a = 419 ∧ k ≠ 1) ∨ (a = 424 ∧ k ≠ 9 ∧ k ≠ 10) ∨ (a = 435 ∧ k ≠ 4 ∧ k ≠ 5 ∧ k ≠ 6 ∧ k ≠ 23))
theorem scr_T {a : Nat} {k : Int} (h : (411 ≤ a ∧ a ≤ 418) ∨ (421 ≤ a ∧ a ≤ 423) ∨ (425 ≤ a ∧ a ≤ 431) ∨ a = 433 ∨ a = 434 ∨ (440 ≤ a ∧ a ≤ 450) ∨ (a = 419 ∧ k ≠ 1) ∨ (a = 424 ∧ k ≠ 9 ∧ k ≠ 10) ∨ (a = 435 ∧ k ≠ 4 ∧ k ≠ 5 ∧ k ≠ 6 ∧ k ≠ 23)) : scr a k = true := decide_eq_true h
theorem scr_F {a : Nat} {k : Int} (h : ¬ ((411 ≤ a ∧ a ≤ 418) ∨ (421 ≤ a ∧ a ≤ 423) ∨ (425 ≤ a ∧ a ≤ 431) ∨ a = 433 ∨ a = 434 ∨ (440 ≤ a ∧ a ≤ 450) ∨ (a = 419 ∧ k ≠ 1) ∨ (a = 424 ∧ k ≠ 9 ∧ k ≠ 10) ∨ (a = 435 ∧ k ≠ 4 ∧ k ≠ 5 ∧ k ≠ 6 ∧ k ≠ 23))) : scr a k = false := decide_eq_false h
def core (V : Vm) : Vm := fun a k => if scr a k = true then 0 else V a k
theorem core_sv {V : Vm} {a : Nat} {k x : Int} (h : scr a k = true) : core (sv V a k x) = core V := by
  funext b j
  unfold core sv ur
  by_cases hb : b = a
  · subst hb
    by_cases hj : j = k
    · subst hj; rw [if_pos h, if_pos h]
    · rw [if_pos rfl, if_neg hj]
  · rw [if_neg hb]
theorem core_at {V V' : Vm} (h : core V' = core V) {a : Nat} {k : Int} (s : scr a k = false) : V' a k = V a k := by
  have q := congrFun (congrFun h a) k
  unfold core at q
  rw [s] at q
  exact q
theorem core_row {V V' : Vm} (h : core V' = core V) {a : Nat} (s : ∀ k, scr a k = false) : V' a = V a := by
  funext k; exact core_at h (s k)
theorem core_ext {V V' : Vm} (h : ∀ a k, scr a k = false → V' a k = V a k) : core V' = core V := by
  funext a k
  unfold core
  cases s : scr a k with
  | true => rfl
  | false => exact h a k s
/-- a store into scratch -/
theorem core_w {V : Vm} {a : Nat} {k x : Int} (h : (411 ≤ a ∧ a ≤ 418) ∨ (421 ≤ a ∧ a ≤ 423) ∨ (425 ≤ a ∧ a ≤ 431) ∨ a = 433 ∨ a = 434 ∨ (440 ≤ a ∧ a ≤ 450) ∨ (a = 419 ∧ k ≠ 1) ∨ (a = 424 ∧ k ≠ 9 ∧ k ≠ 10) ∨ (a = 435 ∧ k ≠ 4 ∧ k ≠ 5 ∧ k ≠ 6 ∧ k ≠ 23)) : core (sv V a k x) = core V := core_sv (scr_T h)
theorem core_c {V V' : Vm} (h : core V' = core V) {a : Nat} {k : Int} (s : ¬ ((411 ≤ a ∧ a ≤ 418) ∨ (421 ≤ a ∧ a ≤ 423) ∨ (425 ≤ a ∧ a ≤ 431) ∨ a = 433 ∨ a = 434 ∨ (440 ≤ a ∧ a ≤ 450) ∨ (a = 419 ∧ k ≠ 1) ∨ (a = 424 ∧ k ≠ 9 ∧ k ≠ 10) ∨ (a = 435 ∧ k ≠ 4 ∧ k ≠ 5 ∧ k ≠ 6 ∧ k ≠ 23))) : V' a k = V a k := core_at h (scr_F s)
theorem core_cl {V V' : Vm} (h : core V' = core V) {a : Nat} (s : a < 411 ∨ a = 420 ∨ a = 432 ∨ (436 ≤ a ∧ a ≤ 439) ∨ 450 < a) : V' a = V a := core_row h (fun k => scr_F (by omega))
/-- a line of THE BOOK, as the class and as the model packs it -/
def Bk (u v : Int) : Prop := ∃ d w th st : Int, (0 ≤ d ∧ d ≤ 9999) ∧ (0 ≤ w ∧ w < 6) ∧ (0 ≤ th ∧ th < 64) ∧ (-1 ≤ st ∧ st < 6) ∧ u = ((d * 8 + w) * 64 + th) * 8 + st + 1 ∧ v = ((d * 6 + w) * 64 + th) * 7 + st + 1
/-- what is so of one of n kin: the table at t shows the row A -/
def Tk (V : Vm) (t : Nat) (n : Int) (A : Int → Int) (k : Int) : Prop := V (t + 2) k = A (11 + k) ∧ V (t + 3) k = A (17 + k) ∧ V (t + 4) (A (17 + k)) = k ∧ (0 ≤ A (11 + k) ∧ A (11 + k) ≤ 99) ∧ (0 ≤ A (17 + k) ∧ A (17 + k) < n)
/-- what is so at one of n seats -/
def Ts (V : Vm) (t : Nat) (n : Int) (A : Int → Int) (s : Int) : Prop := (0 ≤ V (t + 4) s ∧ V (t + 4) s < n) ∧ A (17 + V (t + 4) s) = s
def Tr (V : Vm) (t : Nat) (n : Int) (A : Int → Int) : Prop :=
  (∀ k, 0 ≤ k → k < n → Tk V t n A k) ∧ (∀ s, 0 ≤ s → s < n → Ts V t n A s) ∧
  (V t 6 = A 10 ∧ 0 ≤ A 10 ∧ A 10 < 64) ∧ (V t 7 = A 7 ∧ 0 ≤ A 7 ∧ A 7 ≤ 9999) ∧ (V t 8 = A 8 ∧ 0 ≤ A 8 ∧ A 8 < 30971) ∧ (V t 9 = A 9 ∧ 0 ≤ A 9 ∧ A 9 ≤ 25) ∧
  (∀ i, 0 ≤ i → i < A 9 → Bk (V (t + 5) i) (A (1425 + i)))
/-- the kin: how many, TEMPER, as told -/
def Kn (V : Vm) (t : Nat) (A : Int → Int) : Prop := V t 5 = A 0 ∧ (0 ≤ A 0 ∧ A 0 ≤ 6) ∧ (∀ k, 0 ≤ k → k < A 0 → V (t + 1) k = A (23 + k) ∧ (0 ≤ A (23 + k) ∧ A (23 + k) ≤ 9) ∧ (0 ≤ A (29 + k) ∧ A (29 + k) ≤ 99)) ∧ Tr V t (A 0) A
/-- the row of a step -/
def snp (A : Int → Int) (i : Int) : Int → Int := fun j => if j = 0 then A (165 + 42 * i) else if j < 1000 then A (165 + 42 * i + 1 + (j - 7)) else A (165 + 42 * i + 17 + (j - 1425))
def nxt (A : Int → Int) (i : Int) : Int → Int := if i + 1 < A 3 then snp A (i + 1) else A
/-- where the table of a step lies -/
def sta (V : Vm) (H : Nat) (i : Int) : Nat := H + 21 + 6 * ((V H 9 + i) % 30).toNat
def Stq (V : Vm) (H : Nat) (A : Int → Int) (i : Int) : Prop :=
  V (sta V H i) 5 = snp A i 0 ∧ (0 ≤ snp A i 0 ∧ snp A i 0 ≤ nxt A i 0 ∧ nxt A i 0 ≤ 6) ∧ Tr V (sta V H i) (snp A i 0) (snp A i) ∧
  (∀ k, snp A i 0 ≤ k → k < nxt A i 0 → nxt A i (11 + k) = A (29 + k) ∧ nxt A i (17 + k) = k)
def Sts (V : Vm) (H : Nat) (A : Int → Int) : Prop := V H 10 = A 3 ∧ (0 ≤ A 3 ∧ A 3 ≤ 30) ∧ (0 ≤ V H 9 ∧ V H 9 < 30) ∧ ∀ i, 0 ≤ i → i < A 3 → Stq V H A i
def Spi (V : Vm) (H : Nat) (A : Int → Int) : Prop := ∀ k, 0 ≤ k → k < 36 → V (H + 9) k = A (35 + k) ∧ (0 ≤ A (35 + k) ∧ A (35 + k) ≤ 99) ∧ A (35 + (6 * (k % 6) + k / 6)) = A (35 + k)
def Hed (V : Vm) (H : Nat) (A : Int → Int) : Prop := ∀ k, 0 ≤ k → k < 36 → V (H + 10) k = A (71 + k) ∧ 0 ≤ A (71 + k) ∧ A (71 + k) ≤ 3
def Gai (V : Vm) (H : Nat) (A : Int → Int) : Prop := ∀ k, 0 ≤ k → k < 8 → V (H + 11) k = A (125 + k) ∧ -99 ≤ A (125 + k) ∧ A (125 + k) ≤ 99
def Gue (V : Vm) (H : Nat) (A : Int → Int) : Prop := V (H + 12) 2 = A 4 ∧ (0 ≤ A 4 ∧ A 4 ≤ 6) ∧ ∀ i, 0 ≤ i → i < A 4 → V (H + 13) i = A (107 + 3 * i) ∧ V (H + 14) i = 10 * A (108 + 3 * i) + A (109 + 3 * i) ∧ (0 ≤ A (107 + 3 * i) ∧ A (107 + 3 * i) < 125) ∧ (0 ≤ A (108 + 3 * i) ∧ A (108 + 3 * i) ≤ 3) ∧ (0 ≤ A (109 + 3 * i) ∧ A (109 + 3 * i) ≤ 3)
def Say (V : Vm) (H : Nat) (A : Int → Int) : Prop := V (H + 15) 2 = A 5 ∧ (0 ≤ A 5 ∧ A 5 ≤ 8) ∧ ∀ i, 0 ≤ i → i < A 5 → V (H + 16) i = A (133 + 2 * i) ∧ V (H + 17) i = A (134 + 2 * i) ∧ (0 ≤ A (133 + 2 * i) ∧ A (133 + 2 * i) ≤ 99) ∧ (1 ≤ A (134 + 2 * i) ∧ A (134 + 2 * i) ≤ 99)
def Tld (V : Vm) (H : Nat) (A : Int → Int) : Prop := V (H + 18) 2 = A 6 ∧ (0 ≤ A 6 ∧ A 6 ≤ 8) ∧ ∀ i, 0 ≤ i → i < A 6 → V (H + 19) i = A (149 + 2 * i) ∧ V (H + 20) i = A (150 + 2 * i) ∧ (0 ≤ A (149 + 2 * i) ∧ A (149 + 2 * i) < A 0) ∧ (0 ≤ A (150 + 2 * i) ∧ A (150 + 2 * i) ≤ 10)
/-- the tape and the latest FAULT -/
def Tap (V : Vm) : Prop := V 419 1 = V 435 4 ∧ (0 ≤ V 435 4 ∧ V 435 4 ≤ 300) ∧ ∀ i, 0 ≤ i → i < V 435 4 → V 420 i = V 439 i ∧ 0 ≤ V 439 i ∧ V 439 i < 256
def Fau (V : Vm) : Prop := V 424 9 = V 435 5 ∧ (-1 ≤ V 435 5 ∧ V 435 5 ≤ 6) ∧ V 424 10 = V 435 6 ∧ (-1 ≤ V 435 6 ∧ V 435 6 ≤ 300)
