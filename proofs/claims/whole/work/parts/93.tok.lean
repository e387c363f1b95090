/-! TOKENS: what is cut of bytes -/
def isSp (c : Int) : Prop := c = 32 ∨ c = 10
def isDg (c : Int) : Prop := 48 ≤ c ∧ c ≤ 57
def isLt (c : Int) : Prop := (97 ≤ c ∧ c ≤ 122) ∨ (65 ≤ c ∧ c ≤ 90)
/-- from s up to e all are so, and what is at e isn't -/
def Rn (P : Int → Prop) (b : Int → Int) (n s e : Int) : Prop := (s ≤ e ∧ e ≤ n) ∧ (∀ j, s ≤ j → j < e → P (b j)) ∧ (e < n → ¬ P (b e))
theorem Rn.uq {P : Int → Prop} {b : Int → Int} {n s e e' : Int} (h : Rn P b n s e) (h' : Rn P b n s e') : e = e' := by
  obtain ⟨h1, h2, h3⟩ := h
  obtain ⟨g1, g2, g3⟩ := h'
  rcases Int.lt_trichotomy e e' with q | q | q
  · exact absurd (g2 e h1.1 q) (h3 (by omega))
  · exact q
  · exact absurd (h2 e' g1.1 q) (g3 (by omega))
theorem Rn.ex (P : Int → Prop) (b : Int → Int) {n : Int} : ∀ (m : Nat) (s : Int), s + m = n → ∃ e, Rn P b n s e := by
  intro m
  induction m with
  | zero => exact fun s hs => ⟨s, by omega, fun j j0 j1 => absurd j1 (by omega), fun q => absurd q (by omega)⟩
  | succ m ih =>
    intro s hs
    by_cases q : P (b s)
    · obtain ⟨e, h1, h2, h3⟩ := ih (s + 1) (by omega)
      refine ⟨e, by omega, fun j j0 j1 => ?_, h3⟩
      by_cases w : j = s
      · rw [w]; exact q
      · exact h2 j (by omega) j1
    · exact ⟨s, by omega, fun j j0 j1 => absurd j1 (by omega), fun _ => q⟩
theorem Rn.step {P : Int → Prop} {b : Int → Int} {n s e : Int} (h : Rn P b n s e) (q : s < n) (p : P (b s)) : s < e ∧ Rn P b n (s + 1) e := by
  obtain ⟨h1, h2, h3⟩ := h
  have lt : s < e := by
    by_cases x : s < e
    · exact x
    · exact absurd p (by rw [show s = e by omega]; exact h3 (by omega))
  exact ⟨lt, by omega, fun j j0 j1 => h2 j (by omega) j1, h3⟩
/-- the word of m letters from p on -/
def fwl (b : Int → Int) : Int → Nat → List Int
  | _, 0 => []
  | p, m + 1 => b p :: fwl b (p + 1) m
theorem fwl_app (b : Int → Int) : ∀ (m : Nat) (p : Int), fwl b p (m + 1) = fwl b p m ++ [b (p + m)] := by
  intro m
  induction m with
  | zero => intro p; show [b p] = [b (p + (0 : Nat))]; rw [show p + ((0 : Nat) : Int) = p by omega]
  | succ m ih =>
    intro p
    show b p :: fwl b (p + 1) (m + 1) = b p :: (fwl b (p + 1) m ++ [b (p + (m + 1 : Nat))])
    rw [ih (p + 1), show p + 1 + (m : Int) = p + (m + 1 : Nat) by omega]
theorem fwl_len (b : Int → Int) : ∀ (m : Nat) (p : Int), (fwl b p m).length = m := by
  intro m
  induction m with
  | zero => exact fun _ => rfl
  | succ m ih => exact fun p => congrArg (· + 1) (ih (p + 1))
theorem fwl_at (b : Int → Int) : ∀ (m : Nat) (p : Int) (j : Nat), j < m → (fwl b p m).getD j 0 = b (p + j) := by
  intro m
  induction m with
  | zero => exact fun _ j h => absurd h (by omega)
  | succ m ih =>
    intro p j h
    cases j with
    | zero => show b p = b (p + (0 : Nat)); rw [show p + ((0 : Nat) : Int) = p by omega]
    | succ j =>
      show (fwl b (p + 1) m).getD j 0 = b (p + (j + 1 : Nat))
      rw [ih (p + 1) j (by omega), show p + 1 + (j : Int) = p + (j + 1 : Nat) by omega]
/-- a number, as the class reckons it -/
def nmC (b : Int → Int) : Int → Nat → Int → Int
  | _, 0, x => x
  | p, m + 1, x => nmC b (p + 1) m (min (x * 10 + b p - 48) 10000)
/-- as the model reckons it -/
def nmM (b : Int → Int) : Int → Nat → Int → Int
  | _, 0, x => x
  | p, m + 1, x => nmM b (p + 1) m (if 99999 < x then x else 10 * x + b p - 48)
def NR (x y : Int) : Prop := (0 ≤ x ∧ x ≤ 9999 ∧ y = x) ∨ (x = 10000 ∧ 10000 ≤ y ∧ y ≤ 999999)
theorem nm_R (b : Int → Int) : ∀ (m : Nat) (p x y : Int), (∀ j, p ≤ j → j < p + m → isDg (b j)) → NR x y → NR (nmC b p m x) (nmM b p m y) := by
  intro m
  induction m with
  | zero => exact fun _ _ _ _ h => h
  | succ m ih =>
    intro p x y hb h
    have d := hb p (by omega) (by omega)
    unfold isDg at d
    refine ih (p + 1) _ _ (fun j j0 j1 => hb j (by omega) (by omega)) ?_
    unfold NR at *
    split <;> omega
def WL : List (List Int) := [[114, 101, 97, 99, 104, 101, 115], [98, 101, 97, 114, 115], [107, 105, 110], [107, 101, 112, 116], [114, 101, 97, 99, 104], [100, 111, 119, 110], [98, 121], [115, 116, 114, 97, 112], [115, 119, 97, 112], [119, 105, 116, 104], [100, 105, 110, 110, 101, 114], [119, 104, 111], [116, 101, 109, 112, 101, 114], [115, 101, 97, 116], [98, 101, 115, 105, 100, 101], [108, 111, 111, 115, 101], [97, 99, 114, 111, 115, 115], [113, 117, 105, 118, 101, 114], [105, 102], [116, 104, 101, 110], [101, 108, 115, 101], [101, 110, 100], [111, 114], [97, 110, 100], [110, 111, 116]]
def wdp (i : Nat) : Nat := ((WL.take i).map (fun w => w.length + 1)).sum
def chkWL : Bool := (List.range 25).all fun i => (List.range 25).all fun j => decide (WL.getD i [] = WL.getD j []) == decide (i = j)
set_option maxRecDepth 100000 in
theorem chk_WL : chkWL = true := by decide +kernel
theorem WL_inj {i j : Nat} (hi : i < 25) (hj : j < 25) (h : WL.getD i [] = WL.getD j []) : i = j := by
  have q := chk_WL
  unfold chkWL at q
  rw [List.all_eq_true] at q
  have q1 := q i (List.mem_range.mpr hi)
  rw [List.all_eq_true] at q1
  have q2 := q1 j (List.mem_range.mpr hj)
  rw [decide_eq_true h] at q2
  exact of_decide_eq_true (beq_iff_eq.mp q2).symm
def chkWB : Bool := (List.range 25).all fun i => ((List.range (WL.getD i []).length).all fun j => decide ((xb3.getD (wdp i + j) 0).toInt = (WL.getD i []).getD j 0) && Nat.blt (wdp i + j) 131) && decide ((xb3.getD (wdp i + (WL.getD i []).length) 0).toInt = 32) && Nat.blt (wdp i + (WL.getD i []).length) 131 && Nat.beq (wdp (i + 1)) (wdp i + (WL.getD i []).length + 1) && (WL.getD i []).all (fun x => decide (97 ≤ x) && decide (x ≤ 122)) && Nat.blt 0 (WL.getD i []).length
set_option maxRecDepth 100000 in
theorem chk_WB : chkWB = true := by decide +kernel
theorem WB_at {i : Nat} (hi : i < 25) : (∀ j, j < (WL.getD i []).length → (xb3.getD (wdp i + j) 0).toInt = (WL.getD i []).getD j 0 ∧ wdp i + j < 131) ∧ (xb3.getD (wdp i + (WL.getD i []).length) 0).toInt = 32 ∧ wdp i + (WL.getD i []).length < 131 ∧ wdp (i + 1) = wdp i + (WL.getD i []).length + 1 ∧ (∀ x ∈ WL.getD i [], 97 ≤ x ∧ x ≤ 122) ∧ 0 < (WL.getD i []).length := by
  have q := chk_WB
  unfold chkWB at q
  rw [List.all_eq_true] at q
  have q1 := q i (List.mem_range.mpr hi)
  simp only [Bool.and_eq_true, decide_eq_true_eq, Nat.blt_eq] at q1
  obtain ⟨⟨⟨⟨⟨a1, a2⟩, a3⟩, a4⟩, a5⟩, a6⟩ := q1
  refine ⟨fun j hj => ?_, a2, a3, Nat.eq_of_beq_eq_true a4, fun x hx => ?_, a6⟩
  · rw [List.all_eq_true] at a1
    have b := a1 j (List.mem_range.mpr hj)
    simp only [Bool.and_eq_true, decide_eq_true_eq, Nat.blt_eq] at b
    exact b
  · rw [List.all_eq_true] at a5
    have b := a5 x hx
    simp only [Bool.and_eq_true, decide_eq_true_eq] at b
    exact b
/-- what a word is -/
def WK (w : List Int) (k : Int) : Prop := (∃ i : Nat, i < 25 ∧ k = i ∧ WL.getD i [] = w) ∨ (k = 39 ∧ ∀ i : Nat, i < 25 → WL.getD i [] ≠ w)
theorem WK.is {w : List Int} {k : Int} (h : WK w k) {i : Nat} (hi : i < 25) : WL.getD i [] = w ↔ k = i := by
  rcases h with ⟨j, h1, h2, h3⟩ | ⟨h1, h2⟩
  · constructor
    · intro e
      rw [h2, WL_inj hi h1 (e.trans h3.symm)]
    · intro e
      rw [← h3, show i = j by omega]
  · constructor
    · exact fun e => absurd e (h2 i hi)
    · intro e; omega
theorem WK.rg {w : List Int} {k : Int} (h : WK w k) : (0 ≤ k ∧ k < 25) ∨ k = 39 := by
  rcases h with ⟨j, h1, h2, h3⟩ | ⟨h1, h2⟩
  · omega
  · exact Or.inr h1
/-- a word held against the letters from pl on -/
def mtc (b : Int → Int) (e : Int) : List Int → Int → Bool → Bool
  | [], pl, s => s && decide (pl = e)
  | c :: w, pl, s => mtc b e w (pl + 1) (s && decide (pl < e) && decide (b pl = c))
theorem mtc_F {b : Int → Int} {e : Int} : ∀ (w : List Int) (pl : Int), mtc b e w pl false = false := by
  intro w
  induction w with
  | nil => exact fun _ => rfl
  | cons c w ih => exact fun pl => ih (pl + 1)
theorem mtc_T {b : Int → Int} {e : Int} : ∀ (w : List Int) (m : Nat) (pl : Int), pl + m = e → (mtc b e w pl true = true ↔ w = fwl b pl m) := by
  intro w
  induction w with
  | nil =>
    intro m pl hm
    cases m with
    | zero =>
      have e0 : decide (pl = e) = true := decide_eq_true (by omega)
      show (true && decide (pl = e)) = true ↔ [] = []
      rw [e0]; simp
    | succ m =>
      have e0 : decide (pl = e) = false := decide_eq_false (by omega)
      show (true && decide (pl = e)) = true ↔ [] = b pl :: fwl b (pl + 1) m
      rw [e0]; simp
  | cons c w ih =>
    intro m pl hm
    cases m with
    | zero =>
      have e0 : decide (pl < e) = false := decide_eq_false (by omega)
      show mtc b e w (pl + 1) (true && decide (pl < e) && decide (b pl = c)) = true ↔ c :: w = []
      rw [e0]
      show mtc b e w (pl + 1) false = true ↔ _
      rw [mtc_F]; simp
    | succ m =>
      have e0 : decide (pl < e) = true := decide_eq_true (by omega)
      show mtc b e w (pl + 1) (true && decide (pl < e) && decide (b pl = c)) = true ↔ c :: w = b pl :: fwl b (pl + 1) m
      rw [e0]
      by_cases q : b pl = c
      · rw [decide_eq_true q]
        show mtc b e w (pl + 1) true = true ↔ _
        rw [ih m (pl + 1) (by omega), q]
        simp
      · rw [decide_eq_false q]
        show mtc b e w (pl + 1) false = true ↔ _
        rw [mtc_F]
        constructor
        · intro x; exact absurd x (by decide)
        · intro x; exact absurd (List.cons.inj x).1.symm q
/-- a sign -/
def sgK (c : Int) : Int := if c = 60 then 25 else if c = 62 then 26 else if c = 61 then 27 else if c = 35 then 28 else if c = 43 then 29 else if c = 45 then 30 else if c = 42 then 31 else if c = 47 then 32 else if c = 40 then 33 else if c = 41 then 34 else if c = 59 then 35 else 39
def SG (b : Int → Int) (n p e k : Int) : Prop :=
  (b p = 60 ∧ (p + 1 < n ∧ b (p + 1) = 61) ∧ k = 36 ∧ e = p + 2) ∨ (b p = 62 ∧ (p + 1 < n ∧ b (p + 1) = 61) ∧ k = 37 ∧ e = p + 2) ∨ (¬ ((b p = 60 ∨ b p = 62) ∧ p + 1 < n ∧ b (p + 1) = 61) ∧ k = sgK (b p) ∧ e = p + 1)
/-- the TOKEN from place p up to e: its kind and value -/
def KV (b : Int → Int) (n p e k v : Int) : Prop :=
  (p = n ∧ e = n ∧ k = 40 ∧ v = 0) ∨ (p < n ∧ isDg (b p) ∧ Rn isDg b n p e ∧ k = 38 ∧ v = nmC b p (e - p).toNat 0) ∨
  (p < n ∧ isLt (b p) ∧ Rn isLt b n p e ∧ WK (fwl b p (e - p).toNat) k ∧ v = 0) ∨
  (p < n ∧ ¬ isSp (b p) ∧ ¬ isDg (b p) ∧ ¬ isLt (b p) ∧ SG b n p e k ∧ v = 0)
/-- the next TOKEN from c on -/
def Tok (b : Int → Int) (n c p k e v : Int) : Prop := Rn isSp b n c p ∧ KV b n p e k v
