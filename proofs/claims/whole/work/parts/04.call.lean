/-! runs to their ends, and calls -/
def opAt : List Op → Nat → Option Op
  | [], _ => none
  | o :: l, pc => match Nat.beq o.1 pc with
    | true => some o
    | false => opAt l pc
def mskO : Option (List Bool) → List Value → List Value
  | none, L => L
  | some m, L => msk m L
theorem msk_msk : ∀ (m : List Bool) (L : List Value), msk m (msk m L) = msk m L
  | [], [] => rfl
  | [], _ :: _ => rfl
  | true :: _, [] => rfl
  | false :: _, [] => rfl
  | true :: m, v :: l => congrArg (v :: ·) (msk_msk m l)
  | false :: m, _ :: l => congrArg (dd :: ·) (msk_msk m l)
theorem ivk_cal {cal cal' : Nat → List Value → Mem → Rs} {rk : Nat → List Value → Nat} {r : Nat} (hc : ∀ M a h, rk M a < r → cal M a h = cal' M a h) (M y z : Nat) (S : List Value) (h : Mem) (nx : List Value → Mem → Rs) : ivk cal rk r M y z S h nx = ivk cal' rk r M y z S h nx := by
  unfold ivk
  split <;> first | rfl | skip
  cases hg : (Nat.ble (catS (S.drop y)) 8 && Nat.blt (rk M (S.take y).reverse) r) with
  | false => rfl
  | true =>
    have hr : rk M (S.take y).reverse < r := by
      simp only [Bool.and_eq_true] at hg
      exact Nat.blt_eq.mp hg.2
    rw [hc _ _ _ hr]
theorem stC_cal {cal cal' : Nat → List Value → Mem → Rs} {rk : Nat → List Value → Nat} {r : Nat} (hc : ∀ M a h, rk M a < r → cal M a h = cal' M a h) (o : Op) (nx : Nx) (jp : Nat → Nx) (L S : List Value) (h : Mem) : stC cal rk r o nx jp L S h = stC cal' rk r o nx jp L S h := by
  obtain ⟨pc, i, len, x, y, z, v, sw⟩ := o
  cases i with
  | invokestatic _ => exact ivk_cal hc x y z S h _
  | invokevirtual _ => exact ivk_cal hc x y z S h _
  | invokespecial _ => exact ivk_cal hc x y z S h _
  | ifCond c _ => cases c <;> rfl
  | if_icmp c _ => cases c <;> rfl
  | _ => rfl
theorem stC_out {cal : Nat → List Value → Mem → Rs} {rk : Nat → List Value → Nat} {r : Nat} (hm : Mono cal rk r) (o : Op) (L S : List Value) (h0 : Mem) :
  (∀ (nx : Nx) (jp : Nat → Nx), stC cal rk r o nx jp L S h0 = none) ∨ (∃ v h', le h0 h' ∧ ∀ (nx : Nx) (jp : Nat → Nx), stC cal rk r o nx jp L S h0 = some (v, h')) ∨ (∃ L' S' h', le h0 h' ∧ ∀ (nx : Nx) (jp : Nat → Nx), stC cal rk r o nx jp L S h0 = nx L' S' h') ∨ (∃ t L' S' h', le h0 h' ∧ ∀ (nx : Nx) (jp : Nat → Nx), stC cal rk r o nx jp L S h0 = jp t L' S' h') := stC_tl hm o L S h0
section
variable (P : Nat → List Op) (K : Nat → Nat → Option (List Bool)) (cal : Nat → List Value → Mem → Rs) (rk : Nat → List Value → Nat) (r M : Nat)
def runF : Nat → Nat → List Value → List Value → Mem → Rs
  | 0, _, _, _, _ => none
  | n + 1, pc, L, S, h => match opAt (P M) pc with
    | none => none
    | some o => stC cal rk r o (fun L S h => runF n (pc + o.2.2.1) L S h) (fun t L S h => runF n t L S h) (mskO (K M pc) L) S h
noncomputable def lim (f : Nat → Rs) : Rs := by
  classical exact if h : ∃ n, (f n).isSome = true then f (Classical.choose h) else none
theorem lim_some {f : Nat → Rs} (hm : ∀ n y, f n = some y → f (n + 1) = some y) {y : Value × Mem} : lim f = some y ↔ ∃ n, f n = some y := by
  have up : ∀ (k n : Nat) (y : Value × Mem), f n = some y → f (n + k) = some y := by
    intro k
    induction k with
    | zero => exact fun n y h => h
    | succ k ih => exact fun n y h => hm _ _ (ih n y h)
  unfold lim
  by_cases h : ∃ n, (f n).isSome = true
  · rw [dif_pos h]
    constructor
    · exact fun e => ⟨_, e⟩
    · rintro ⟨n, hn⟩
      obtain ⟨z, hz⟩ := Option.isSome_iff_exists.mp (Classical.choose_spec h)
      have h1 := up n _ _ hz
      have h2 := up (Classical.choose h) _ _ hn
      rw [Nat.add_comm] at h2
      rw [hz, ← h1, h2]
  · rw [dif_neg h]
    constructor
    · exact fun e => by cases e
    · rintro ⟨n, hn⟩
      exact absurd ⟨n, by rw [hn]; rfl⟩ h
variable {P K cal rk r M}
theorem runF_up (hm : Mono cal rk r) : ∀ (n pc : Nat) (L S : List Value) (h : Mem) (y : Value × Mem), runF P K cal rk r M n pc L S h = some y → runF P K cal rk r M (n + 1) pc L S h = some y := by
  intro n
  induction n with
  | zero => intro pc L S h y e; cases e
  | succ n ih =>
    intro pc L S h y e
    rw [runF] at e ⊢
    cases ho : opAt (P M) pc with
    | none => rw [ho] at e; cases e
    | some o =>
      rw [ho] at e
      dsimp only at e ⊢
      rcases stC_out hm o (mskO (K M pc) L) S h with q | ⟨v, h', -, q⟩ | ⟨L', S', h', -, q⟩ | ⟨t, L', S', h', -, q⟩
      · rw [q] at e; cases e
      · rw [q] at e ⊢; exact e
      · rw [q] at e ⊢; exact ih _ _ _ _ _ e
      · rw [q] at e ⊢; exact ih _ _ _ _ _ e
theorem runF_le (hm : Mono cal rk r) : ∀ (n pc : Nat) (L S : List Value) (h : Mem) (v : Value) (h' : Mem), runF P K cal rk r M n pc L S h = some (v, h') → le h h' := by
  intro n
  induction n with
  | zero => intro pc L S h v h' e; cases e
  | succ n ih =>
    intro pc L S h v h' e
    rw [runF] at e
    cases ho : opAt (P M) pc with
    | none => rw [ho] at e; cases e
    | some o =>
      rw [ho] at e
      dsimp only at e
      rcases stC_out hm o (mskO (K M pc) L) S h with q | ⟨v, h1, hl, q⟩ | ⟨L', S', h1, hl, q⟩ | ⟨t, L', S', h1, hl, q⟩
      · rw [q] at e; cases e
      · rw [q] at e; cases e; exact hl
      · rw [q] at e; exact le_tr hl (ih _ _ _ _ _ _ e)
      · rw [q] at e; exact le_tr hl (ih _ _ _ _ _ _ e)
variable (P K cal rk r M)
/-- the run from a place to the method's end -/
noncomputable def runA (pc : Nat) (L S : List Value) (h : Mem) : Rs := lim fun n => runF P K cal rk r M n pc L S h
variable {P K cal rk r M}
theorem runA_some (hm : Mono cal rk r) {pc : Nat} {L S : List Value} {h : Mem} {y : Value × Mem} : runA P K cal rk r M pc L S h = some y ↔ ∃ n, runF P K cal rk r M n pc L S h = some y := lim_some fun n y e => runF_up hm n pc L S h y e
theorem opt_ext {a b : Rs} (h : ∀ y, a = some y ↔ b = some y) : a = b := by
  cases a with
  | none =>
    cases b with
    | none => rfl
    | some y => exact ((h y).mpr rfl)
  | some x => exact ((h x).mp rfl).symm
theorem runA_eq (hm : Mono cal rk r) (pc : Nat) (L S : List Value) (h : Mem) : runA P K cal rk r M pc L S h = match opAt (P M) pc with
    | none => none
    | some o => stC cal rk r o (fun L S h => runA P K cal rk r M (pc + o.2.2.1) L S h) (fun t L S h => runA P K cal rk r M t L S h) (mskO (K M pc) L) S h := by
  apply opt_ext
  intro y
  rw [runA_some hm]
  cases ho : opAt (P M) pc with
  | none =>
    constructor
    · rintro ⟨n, e⟩
      cases n with
      | zero => cases e
      | succ n => rw [runF, ho] at e; cases e
    · intro e; cases e
  | some o =>
    dsimp only
    have st : ∀ n, runF P K cal rk r M (n + 1) pc L S h = stC cal rk r o (fun L S h => runF P K cal rk r M n (pc + o.2.2.1) L S h) (fun t L S h => runF P K cal rk r M n t L S h) (mskO (K M pc) L) S h := fun n => by rw [runF, ho]
    rcases stC_out hm o (mskO (K M pc) L) S h with q | ⟨v, h', -, q⟩ | ⟨L', S', h', -, q⟩ | ⟨t, L', S', h', -, q⟩
    · rw [q]
      constructor
      · rintro ⟨n, e⟩
        cases n with
        | zero => cases e
        | succ n => rw [st, q] at e; cases e
      · intro e; cases e
    · rw [q]
      constructor
      · rintro ⟨n, e⟩
        cases n with
        | zero => cases e
        | succ n => rw [st, q] at e; exact e
      · intro e; exact ⟨1, by rw [st, q]; exact e⟩
    · rw [q, runA_some hm]
      constructor
      · rintro ⟨n, e⟩
        cases n with
        | zero => cases e
        | succ n => rw [st, q] at e; exact ⟨n, e⟩
      · rintro ⟨n, e⟩
        exact ⟨n + 1, by rw [st, q]; exact e⟩
    · rw [q, runA_some hm]
      constructor
      · rintro ⟨n, e⟩
        cases n with
        | zero => cases e
        | succ n => rw [st, q] at e; exact ⟨n, e⟩
      · rintro ⟨n, e⟩
        exact ⟨n + 1, by rw [st, q]; exact e⟩
theorem runF_cal {cal' : Nat → List Value → Mem → Rs} (hc : ∀ M a h, rk M a < r → cal M a h = cal' M a h) : ∀ (n pc : Nat) (L S : List Value) (h : Mem), runF P K cal rk r M n pc L S h = runF P K cal' rk r M n pc L S h := by
  intro n
  induction n with
  | zero => intros; rfl
  | succ n ih =>
    intro pc L S h
    rw [runF, runF]
    cases opAt (P M) pc with
    | none => rfl
    | some o =>
      dsimp only
      rw [stC_cal hc]
      congr 1
      · funext L S h; exact ih _ _ _ _
      · funext t L S h; exact ih _ _ _ _
theorem runA_cal {cal' : Nat → List Value → Mem → Rs} (hc : ∀ M a h, rk M a < r → cal M a h = cal' M a h) (pc : Nat) (L S : List Value) (h : Mem) : runA P K cal rk r M pc L S h = runA P K cal' rk r M pc L S h := by
  unfold runA
  congr 1
  funext n
  exact runF_cal hc n pc L S h
end
def lay : List Value → List Value
  | [] => []
  | .long x :: l => .long x :: dd :: lay l
  | .double x :: l => .double x :: dd :: lay l
  | v :: l => v :: lay l
def pad : Nat → List Value → List Value
  | 0, _ => []
  | n + 1, [] => dd :: pad n []
  | n + 1, v :: l => v :: pad n l
section
variable (P : Nat → List Op) (K : Nat → Nat → Option (List Bool)) (mx : Nat → Nat) (rk : Nat → List Value → Nat) (rc : Nat → List Value → Mem → Bool)
/-- a call: rc says whether its receiver is of the method's class -/
noncomputable def calD : Nat → Nat → List Value → Mem → Rs
  | 0, _, _, _ => none
  | d + 1, M, a, h => grd (rc M a h) (runA P K (calD d) rk (rk M a) M 0 (pad (mx M) (lay a)) [] h)
noncomputable def calA (M : Nat) (a : List Value) (h : Mem) : Rs := calD P K mx rk rc (rk M a + 1) M a h
theorem calD_A : ∀ (d M : Nat) (a : List Value) (h : Mem), rk M a < d → calD P K mx rk rc d M a h = calA P K mx rk rc M a h := by
  intro d
  induction d using Nat.strongRecOn with
  | _ d ih =>
    intro M a h hr
    cases d with
    | zero => exact absurd hr (Nat.not_lt_zero _)
    | succ e =>
      show grd (rc M a h) (runA P K (calD P K mx rk rc e) rk (rk M a) M 0 (pad (mx M) (lay a)) [] h) = grd (rc M a h) (runA P K (calD P K mx rk rc (rk M a)) rk (rk M a) M 0 (pad (mx M) (lay a)) [] h)
      congr 1
      refine runA_cal (fun M' a' h' q => ?_) _ _ _ _
      rw [ih e (Nat.lt_succ_self _) M' a' h' (Nat.lt_of_lt_of_le q (Nat.le_of_lt_succ hr))]
      rw [ih (rk M a) hr M' a' h' q]
theorem grd_some {b : Bool} {r : Rs} {y : Value × Mem} (e : grd b r = some y) : b = true ∧ r = some y := by
  cases b
  · cases e
  · exact ⟨rfl, e⟩
theorem calA_run (M : Nat) (a : List Value) (h : Mem) : calA P K mx rk rc M a h = grd (rc M a h) (runA P K (calA P K mx rk rc) rk (rk M a) M 0 (pad (mx M) (lay a)) [] h) := by
  show grd (rc M a h) (runA P K (calD P K mx rk rc (rk M a)) rk (rk M a) M 0 (pad (mx M) (lay a)) [] h) = _
  congr 1
  exact runA_cal (rk := rk) (r := rk M a) (cal' := calA P K mx rk rc) (fun M' a' h' q => calD_A P K mx rk rc (rk M a) M' a' h' q) _ _ _ _
theorem calA_mono : ∀ (r : Nat), Mono (calA P K mx rk rc) rk r := by
  intro r
  induction r with
  | zero => exact fun M a h v h' q => absurd q (Nat.not_lt_zero _)
  | succ r ih =>
    intro M a h v h' q e
    rcases Nat.lt_or_ge (rk M a) r with g | g
    · exact ih M a h v h' g e
    · have hr : rk M a = r := Nat.le_antisymm (Nat.le_of_lt_succ q) g
      rw [calA_run, hr] at e
      obtain ⟨n, e⟩ := (runA_some ih).mp (grd_some e).2
      exact runF_le ih _ _ _ _ _ _ _ e
/-- the run of a method of rank r from a place, all calls as they are -/
noncomputable def runX (r M pc : Nat) (L S : List Value) (h : Mem) : Rs := runA P K (calA P K mx rk rc) rk r M pc L S h
/-- what the equations of the methods are computed by: n steps at most, stopping at the places that have a mask -/
def exN (cal : Nat → List Value → Mem → Rs) (run : Nat → List Value → List Value → Mem → Rs) (r M : Nat) : Nat → Nat → List Value → List Value → Mem → Rs
  | 0, pc, L, S, h => run pc L S h
  | n + 1, pc, L, S, h => match K M pc with
    | some m => run pc (msk m L) S h
    | none => match opAt (P M) pc with
      | none => none
      | some o => stC cal rk r o (fun L S h => exN cal run r M n (pc + o.2.2.1) L S h) (fun t L S h => exN cal run r M n t L S h) L S h
def exS (cal : Nat → List Value → Mem → Rs) (run : Nat → List Value → List Value → Mem → Rs) (r M n pc : Nat) (L S : List Value) (h : Mem) : Rs := match opAt (P M) pc with
      | none => none
      | some o => stC cal rk r o (fun L S h => exN P K rk cal run r M n (pc + o.2.2.1) L S h) (fun t L S h => exN P K rk cal run r M n t L S h) (mskO (K M pc) L) S h
theorem runX_msk (r M pc : Nat) (L S : List Value) (h : Mem) {m : List Bool} (hk : K M pc = some m) : runX P K mx rk rc r M pc (msk m L) S h = runX P K mx rk rc r M pc L S h := by
  unfold runX
  rw [runA_eq (calA_mono P K mx rk rc r), runA_eq (calA_mono P K mx rk rc r) pc L, hk]
  simp only [mskO, msk_msk]
theorem exN_eq (r M : Nat) : ∀ (n pc : Nat) (L S : List Value) (h : Mem), exN P K rk (calA P K mx rk rc) (runX P K mx rk rc r M) r M n pc L S h = runX P K mx rk rc r M pc L S h := by
  intro n
  induction n with
  | zero => intros; rfl
  | succ n ih =>
    intro pc L S h
    rw [exN]
    cases hk : K M pc with
    | some m => exact runX_msk P K mx rk rc r M pc L S h hk
    | none =>
      dsimp only
      show _ = runA P K (calA P K mx rk rc) rk r M pc L S h
      rw [runA_eq (calA_mono P K mx rk rc r), hk]
      cases opAt (P M) pc with
      | none => rfl
      | some o =>
        dsimp only
        congr 1
        · funext L S h; exact ih _ _ _ _
        · funext t L S h; exact ih _ _ _ _
theorem exS_eq (r M n pc : Nat) (L S : List Value) (h : Mem) : runX P K mx rk rc r M pc L S h = exS P K rk (calA P K mx rk rc) (runX P K mx rk rc r M) r M n pc L S h := by
  unfold exS
  show runA P K (calA P K mx rk rc) rk r M pc L S h = _
  rw [runA_eq (calA_mono P K mx rk rc r)]
  cases opAt (P M) pc with
  | none => rfl
  | some o =>
    dsimp only
    congr 1
    · funext L S h; exact (exN_eq P K mx rk rc r M n _ _ _ _).symm
    · funext t L S h; exact (exN_eq P K mx rk rc r M n _ _ _ _).symm
theorem calA_X (M : Nat) (a : List Value) (h : Mem) : calA P K mx rk rc M a h = grd (rc M a h) (runX P K mx rk rc (rk M a) M 0 (pad (mx M) (lay a)) [] h) := calA_run P K mx rk rc M a h
end
