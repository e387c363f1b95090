/-! WHAT STANDS OUTSIDE IS NEVER WRITTEN -/
def G8 (h : Mem) : Prop := 8 ≤ mN h ∧ ∀ a, a < 8 → (mS h a).1 ≠ 1 ∧ (mS h a).1 ≠ 2
def lk (h h' : Mem) : Prop := G8 h → G8 h' ∧ ∀ a, a < 8 → mI h' a = mI h a ∧ mS h' a = mS h a
theorem lk_rf (h : Mem) : lk h h := fun g => ⟨g, fun _ _ => ⟨rfl, rfl⟩⟩
theorem lk_tr {a b c : Mem} (x : lk a b) (y : lk b c) : lk a c := fun g => ⟨(y (x g).1).1, fun k hk => ⟨((y (x g).1).2 k hk).1.trans ((x g).2 k hk).1, ((y (x g).1).2 k hk).2.trans ((x g).2 k hk).2⟩⟩
theorem lk_wI {h : Mem} {a : Nat} {f : Nat → Int32} (h8 : 8 ≤ a) : lk h (wI h a f) := fun g => ⟨g, fun b hb => ⟨va_up_o _ _ _ _ (by omega), rfl⟩⟩
theorem lk_wK {h : Mem} {a : Nat} {f : Nat → Int32} (hk : (mS h a).1 = 1 ∨ (mS h a).1 = 2) : lk h (wI h a f) := fun g => ⟨g, fun b hb => ⟨va_up_o _ _ _ _ (fun e => by
  have q := g.2 b hb
  rw [e] at q
  rcases hk with hk | hk
  · exact q.1 hk
  · exact q.2 hk), rfl⟩⟩
theorem lk_wJ {h : Mem} {a : Nat} {f : Nat → Int64} : lk h (wJ h a f) := fun g => ⟨g, fun _ _ => ⟨rfl, rfl⟩⟩
theorem lk_wR {h : Mem} {a : Nat} {f : Nat → Nat} : lk h (wR h a f) := fun g => ⟨g, fun _ _ => ⟨rfl, rfl⟩⟩
theorem lk_mk (h : Mem) (k n : Nat) : lk h (mk h k n) := fun g => by
  have g1 := g.1
  have e : ∀ a, a < 8 → mS (mk h k n) a = mS h a := fun a ha => va_up_o _ _ _ _ (by omega)
  refine ⟨⟨by show 8 ≤ mN h + 1; omega, fun a ha => ?_⟩, fun a ha => ⟨va_up_o _ _ _ _ (by omega), e a ha⟩⟩
  rw [e a ha]; exact g.2 a ha
theorem lk_cl (h : Mem) (k n : Nat) (f : Nat → Int32) : lk h (wI (mk h k n) (mN h) f) := fun g => lk_tr (lk_mk h k n) (lk_wI g.1) g
def Tfq (h0 : Mem) (F : Nx → (Nat → Nx) → Rs) : Prop :=
  (∀ nx jp, F nx jp = none) ∨ (∃ v h', lk h0 h' ∧ ∀ nx jp, F nx jp = some (v, h')) ∨ (∃ L S h', lk h0 h' ∧ ∀ nx jp, F nx jp = nx L S h') ∨ (∃ t L S h', lk h0 h' ∧ ∀ nx jp, F nx jp = jp t L S h')
theorem tfq_no {h0 : Mem} : Tfq h0 (fun _ _ => none) := Or.inl fun _ _ => rfl
theorem tfq_rt {h0 : Mem} {v : Value} {h : Mem} (q : lk h0 h) : Tfq h0 (fun _ _ => some (v, h)) := Or.inr (Or.inl ⟨v, h, q, fun _ _ => rfl⟩)
theorem tfq_nx {h0 : Mem} {L S : List Value} {h : Mem} (q : lk h0 h) : Tfq h0 (fun nx _ => nx L S h) := Or.inr (Or.inr (Or.inl ⟨L, S, h, q, fun _ _ => rfl⟩))
theorem tfq_jp {h0 : Mem} {t : Nat} {L S : List Value} {h : Mem} (q : lk h0 h) : Tfq h0 (fun _ jp => jp t L S h) := Or.inr (Or.inr (Or.inr ⟨t, L, S, h, q, fun _ _ => rfl⟩))
theorem tfq_if {h0 : Mem} {c : Prop} [Decidable c] {F G : Nx → (Nat → Nx) → Rs} (f : Tfq h0 F) (g : Tfq h0 G) : Tfq h0 (fun nx jp => if c then F nx jp else G nx jp) := by
  by_cases q : c
  · simp only [q, if_true]; exact f
  · simp only [q, if_false]; exact g
theorem tfq_ifn {h0 : Mem} {c : Prop} [Decidable c] {F : Nx → (Nat → Nx) → Rs} (f : Tfq h0 F) : Tfq h0 (fun nx jp => if c then F nx jp else none) := tfq_if f tfq_no
theorem tfq_ifc {h0 : Mem} {c : Prop} [Decidable c] {F : Nx → (Nat → Nx) → Rs} (f : c → Tfq h0 F) : Tfq h0 (fun nx jp => if c then F nx jp else none) := by
  by_cases q : c
  · have := f q
    simp only [q, if_true]; exact this
  · simp only [q, if_false]; exact tfq_no
theorem tfq_grd {h0 : Mem} {b : Bool} {F : Nx → (Nat → Nx) → Rs} (f : Tfq h0 F) : Tfq h0 (fun nx jp => grd b (F nx jp)) := by
  cases b
  · exact tfq_no
  · exact f
theorem tfq_sw {h0 : Mem} {L S : List Value} {d : Nat} {x : Int32} (sw : List (Int32 × Nat)) : Tfq h0 (fun _ jp => swC sw d x fun t => jp t L S h0) := by
  induction sw with
  | nil => exact tfq_jp (lk_rf _)
  | cons q l ih =>
    obtain ⟨c, t⟩ := q
    show Tfq h0 (fun _ jp => if x = c then jp t L S h0 else swC l d x fun t => jp t L S h0)
    exact tfq_if (tfq_jp (lk_rf _)) ih
def Lkp (cal : Nat → List Value → Mem → Rs) (rk : Nat → List Value → Nat) (r : Nat) : Prop := ∀ M a h v h', rk M a < r → cal M a h = some (v, h') → lk h h'
theorem tfq_ivk {cal : Nat → List Value → Mem → Rs} {rk : Nat → List Value → Nat} {r : Nat} (hm : Lkp cal rk r) (M y z : Nat) (L S : List Value) (h : Mem) : Tfq h (fun nx _ => ivk cal rk r M y z S h fun S h => nx L S h) := by
  unfold ivk
  split
  · exact tfq_grd (tfq_ifc fun c => tfq_nx (lk_wI c.2.2.2.2.1))
  · exact tfq_grd (tfq_ifc fun _ => tfq_nx (lk_cl h _ _ _))
  · exact tfq_grd (tfq_nx (lk_rf _))
  · exact tfq_no
  · exact tfq_no
  · exact tfq_no
  · cases hg : (Nat.ble (catS (S.drop y)) 8 && Nat.blt (rk M (S.take y).reverse) r) with
    | false => exact tfq_no
    | true =>
      have hr : rk M (S.take y).reverse < r := by
        simp only [Bool.and_eq_true] at hg
        exact Nat.blt_eq.mp hg.2
      show Tfq h (fun nx _ => bnd z (cal M (S.take y).reverse h) (fun S h => nx L S h) (S.drop y))
      cases hc : cal M (S.take y).reverse h with
      | none =>
        unfold bnd
        split <;> exact tfq_no
      | some q =>
        obtain ⟨v, h1⟩ := q
        have hl := hm _ _ _ _ _ hr hc
        unfold bnd
        split
        · cases v <;> first | exact tfq_no | exact tfq_nx hl
        · cases v <;> first | exact tfq_no | exact tfq_nx hl
        · cases v <;> first | exact tfq_no | exact tfq_nx hl
        · cases v <;> first | exact tfq_no | exact tfq_nx hl
set_option maxHeartbeats 4000000 in
theorem stC_tfq {cal : Nat → List Value → Mem → Rs} {rk : Nat → List Value → Nat} {r : Nat} (hm : Lkp cal rk r) (o : Op) (L S : List Value) (h : Mem) : Tfq h (fun nx jp => stC cal rk r o nx jp L S h) := by
  obtain ⟨pc, i, len, x, y, z, v, sw⟩ := o
  cases i with
  | ifCond c _ =>
    cases c <;> (rcases S with _ | ⟨v1, S⟩; · exact tfq_no) <;> cases v1 <;> first | exact tfq_no | exact tfq_if (tfq_jp (lk_rf _)) (tfq_nx (lk_rf _)) | exact tfq_if (tfq_nx (lk_rf _)) (tfq_jp (lk_rf _))
  | if_icmp c _ =>
    cases c <;> (rcases S with _ | ⟨v1, S⟩; · exact tfq_no) <;> cases v1 <;> first | exact tfq_no | ((rcases S with _ | ⟨v2, S⟩; · exact tfq_no) <;> cases v2 <;> first | exact tfq_no | exact tfq_if (tfq_jp (lk_rf _)) (tfq_nx (lk_rf _)) | exact tfq_if (tfq_nx (lk_rf _)) (tfq_jp (lk_rf _)))
  | invokestatic _ => exact tfq_ivk hm x y z L S h
  | invokevirtual _ => exact tfq_ivk hm x y z L S h
  | invokespecial _ => exact tfq_ivk hm x y z L S h
  | iload_n _ => (show Tfq h (fun nx _ => match nth L x with | .int a => nx L (.int a :: S) h | _ => none)); cases nth L x <;> first | exact tfq_no | exact tfq_nx (lk_rf _)
  | iload _ => (show Tfq h (fun nx _ => match nth L x with | .int a => nx L (.int a :: S) h | _ => none)); cases nth L x <;> first | exact tfq_no | exact tfq_nx (lk_rf _)
  | lload_n _ => (show Tfq h (fun nx _ => match nth L x with | .long a => nx L (.long a :: S) h | _ => none)); cases nth L x <;> first | exact tfq_no | exact tfq_nx (lk_rf _)
  | lload _ => (show Tfq h (fun nx _ => match nth L x with | .long a => nx L (.long a :: S) h | _ => none)); cases nth L x <;> first | exact tfq_no | exact tfq_nx (lk_rf _)
  | aload_n _ => (show Tfq h (fun nx _ => match nth L x with | .ref a => nx L (.ref a :: S) h | _ => none)); cases nth L x <;> first | exact tfq_no | exact tfq_nx (lk_rf _)
  | aload _ => (show Tfq h (fun nx _ => match nth L x with | .ref a => nx L (.ref a :: S) h | _ => none)); cases nth L x <;> first | exact tfq_no | exact tfq_nx (lk_rf _)
  | iinc _ _ => (show Tfq h (fun nx _ => match nth L x, v with | .int a, .int c => nx (st1 L x (.int (a + c))) S h | _, _ => none)); cases nth L x <;> first | exact tfq_no | (cases v <;> first | exact tfq_no | exact tfq_nx (lk_rf _))
  | new _ => exact tfq_nx (lk_mk h _ _)
  | goto _ => exact tfq_jp (lk_rf _)
  | tableswitch _ _ _ _ => (rcases S with _ | ⟨v1, S⟩; · exact tfq_no) <;> cases v1 <;> first | exact tfq_no | exact tfq_sw _
  | lookupswitch _ _ => (rcases S with _ | ⟨v1, S⟩; · exact tfq_no) <;> cases v1 <;> first | exact tfq_no | exact tfq_sw _
  | getfield _ =>
    rcases z with _ | _ | _ | z <;> (rcases S with _ | ⟨v1, S⟩; · exact tfq_no) <;> cases v1 <;> first | exact tfq_no | exact tfq_ifn (tfq_nx (lk_rf _))
  | putfield _ =>
    rcases z with _ | _ | _ | _ | z <;> (rcases S with _ | ⟨v1, S⟩; · exact tfq_no) <;> cases v1 <;> first | exact tfq_no | ((rcases S with _ | ⟨v2, S⟩; · exact tfq_no) <;> cases v2 <;> first | exact tfq_no | exact tfq_ifc (fun c => tfq_nx (lk_wI c.2)) | exact tfq_ifc (fun _ => tfq_nx lk_wJ) | exact tfq_ifc (fun _ => tfq_nx lk_wR) | exact tfq_ifc (fun c => tfq_nx (lk_wI c.2.1)))
  | ireturn =>
    (rcases S with _ | ⟨v1, S⟩; · exact tfq_no) <;> cases v1 <;> first | exact tfq_no | skip
    (rcases S with _ | ⟨v2, S⟩) <;> first | exact tfq_no | skip
    rcases z with _ | _ | _ | z <;> first | exact tfq_rt (lk_rf _) | exact tfq_ifn (tfq_rt (lk_rf _))
  | checkcast _ => (rcases S with _ | ⟨v1, S⟩; · exact tfq_no) <;> cases v1 <;> first | exact tfq_no | exact tfq_grd (tfq_nx (lk_rf _))
  | newarray _ => (rcases S with _ | ⟨v1, S⟩; · exact tfq_no) <;> cases v1 <;> first | exact tfq_no | exact tfq_ifn (tfq_nx (lk_mk h _ _))
  | anewarray _ => (rcases S with _ | ⟨v1, S⟩; · exact tfq_no) <;> cases v1 <;> first | exact tfq_no | exact tfq_ifn (tfq_nx (lk_mk h _ _))
  | iastore => (rcases S with _ | ⟨v1, S⟩; · exact tfq_no) <;> cases v1 <;> first | exact tfq_no | ((rcases S with _ | ⟨v2, S⟩; · exact tfq_no) <;> cases v2 <;> first | exact tfq_no | ((rcases S with _ | ⟨v3, S⟩; · exact tfq_no) <;> cases v3 <;> first | exact tfq_no | exact tfq_ifc (fun c => tfq_nx (lk_wK (Or.inl c.1)))))
  | bastore => (rcases S with _ | ⟨v1, S⟩; · exact tfq_no) <;> cases v1 <;> first | exact tfq_no | ((rcases S with _ | ⟨v2, S⟩; · exact tfq_no) <;> cases v2 <;> first | exact tfq_no | ((rcases S with _ | ⟨v3, S⟩; · exact tfq_no) <;> cases v3 <;> first | exact tfq_no | exact tfq_ifc (fun c => tfq_nx (lk_wK (Or.inr c.1)))))
  | lastore => (rcases S with _ | ⟨v1, S⟩; · exact tfq_no) <;> cases v1 <;> first | exact tfq_no | ((rcases S with _ | ⟨v2, S⟩; · exact tfq_no) <;> cases v2 <;> first | exact tfq_no | ((rcases S with _ | ⟨v3, S⟩; · exact tfq_no) <;> cases v3 <;> first | exact tfq_no | exact tfq_ifc (fun _ => tfq_nx lk_wJ)))
  | aastore => (rcases S with _ | ⟨v1, S⟩; · exact tfq_no) <;> cases v1 <;> first | exact tfq_no | ((rcases S with _ | ⟨v2, S⟩; · exact tfq_no) <;> cases v2 <;> first | exact tfq_no | ((rcases S with _ | ⟨v3, S⟩; · exact tfq_no) <;> cases v3 <;> first | exact tfq_no | exact tfq_ifc (fun _ => tfq_nx lk_wR)))
  | _ =>
    first
    | exact tfq_no
    | exact tfq_nx (lk_rf _)
    | ((rcases S with _ | ⟨v1, S⟩) <;> first | exact tfq_no | exact tfq_rt (lk_rf _))
    | ((rcases S with _ | ⟨v1, S⟩) <;> first | exact tfq_no | (cases v1 <;> first | exact tfq_no | exact tfq_nx (lk_rf _) | exact tfq_ifn (tfq_nx (lk_rf _)) | exact tfq_if (tfq_jp (lk_rf _)) (tfq_nx (lk_rf _)) | exact tfq_if (tfq_nx (lk_rf _)) (tfq_jp (lk_rf _))))
    | ((rcases S with _ | ⟨v1, S⟩) <;> first | exact tfq_no | (cases v1 <;> first | exact tfq_no | ((rcases S with _ | ⟨v2, S⟩) <;> first | exact tfq_no | exact tfq_rt (lk_rf _))))
    | ((rcases S with _ | ⟨v1, S⟩) <;> first | exact tfq_no | (cases v1 <;> first | exact tfq_no | exact tfq_nx (lk_rf _) | ((rcases S with _ | ⟨v2, S⟩) <;> first | exact tfq_no | (cases v2 <;> first | exact tfq_no | exact tfq_nx (lk_rf _) | exact tfq_ifn (tfq_nx (lk_rf _)) | exact tfq_if tfq_no (tfq_nx (lk_rf _))))))
    | ((rcases S with _ | ⟨v1, S⟩) <;> first | exact tfq_no | (cases v1 <;> first | exact tfq_no | ((rcases S with _ | ⟨v2, S⟩) <;> first | exact tfq_no | (cases v2 <;> first | exact tfq_no | ((rcases S with _ | ⟨v3, S⟩) <;> first | exact tfq_no | (cases v3 <;> first | exact tfq_no | exact tfq_ifn (tfq_nx (lk_rf _))))))))
theorem stC_outq {cal : Nat → List Value → Mem → Rs} {rk : Nat → List Value → Nat} {r : Nat} (hm : Lkp cal rk r) (o : Op) (L S : List Value) (h0 : Mem) :
  (∀ (nx : Nx) (jp : Nat → Nx), stC cal rk r o nx jp L S h0 = none) ∨ (∃ v h', lk h0 h' ∧ ∀ (nx : Nx) (jp : Nat → Nx), stC cal rk r o nx jp L S h0 = some (v, h')) ∨ (∃ L' S' h', lk h0 h' ∧ ∀ (nx : Nx) (jp : Nat → Nx), stC cal rk r o nx jp L S h0 = nx L' S' h') ∨ (∃ t L' S' h', lk h0 h' ∧ ∀ (nx : Nx) (jp : Nat → Nx), stC cal rk r o nx jp L S h0 = jp t L' S' h') := stC_tfq hm o L S h0
theorem runF_lk {P : Nat → List Op} {K : Nat → Nat → Option (List Bool)} {cal : Nat → List Value → Mem → Rs} {rk : Nat → List Value → Nat} {r M : Nat} (hm : Lkp cal rk r) : ∀ (n pc : Nat) (L S : List Value) (h : Mem) (v : Value) (h' : Mem), runF P K cal rk r M n pc L S h = some (v, h') → lk h h' := by
  intro n
  induction n with
  | zero => intro pc L S h v h' e; cases e
  | succ n ih =>
    intro pc L S h v h' e
    rw [runF] at e
    cases ho : opAt (P M) pc with
    | none => rw [ho] at e; cases e
    | some o =>
      rw [ho] at e
      dsimp only at e
      rcases stC_outq hm o (mskO (K M pc) L) S h with q | ⟨v, h1, hl, q⟩ | ⟨L', S', h1, hl, q⟩ | ⟨t, L', S', h1, hl, q⟩
      · rw [q] at e; cases e
      · rw [q] at e; cases e; exact hl
      · rw [q] at e; exact lk_tr hl (ih _ _ _ _ _ _ e)
      · rw [q] at e; exact lk_tr hl (ih _ _ _ _ _ _ e)
theorem calA_lk (P : Nat → List Op) (K : Nat → Nat → Option (List Bool)) (mx : Nat → Nat) (rk : Nat → List Value → Nat) (rc : Nat → List Value → Mem → Bool) : ∀ (r : Nat), Lkp (calA P K mx rk rc) rk r := by
  intro r
  induction r with
  | zero => exact fun M a h v h' q => absurd q (Nat.not_lt_zero _)
  | succ r ih =>
    intro M a h v h' q e
    rcases Nat.lt_or_ge (rk M a) r with g | g
    · exact ih M a h v h' g e
    · have hr : rk M a = r := Nat.le_antisymm (Nat.le_of_lt_succ q) g
      rw [calA_run] at e
      obtain ⟨-, e⟩ := grd_some e
      rw [hr] at e
      obtain ⟨n, e⟩ := (runA_some (calA_mono P K mx rk rc r)).mp e
      exact runF_lk ih _ _ _ _ _ _ _ e
theorem cA_lk {M : Nat} {a : List Value} {h : Mem} {v : Value} {h' : Mem} (e : cA M a h = some (v, h')) : lk h h' := calA_lk PP KK mxx rkk rcc (rkk M a + 1) M a h v h' (Nat.lt_succ_self _) e
/-- the script, and what may be read of it -/
def Rg (L : Nat) (xs : Nat → Int32) (h : Mem) : Prop := G8 h ∧ mS h 6 = (8, L) ∧ ∀ k, mI h 6 k = xs k
theorem Rg.go {L : Nat} {xs : Nat → Int32} {M : Nat} {a : List Value} {h : Mem} {v : Value} {h' : Mem} (R : Rg L xs h) (e : cA M a h = some (v, h')) : Rg L xs h' := by
  obtain ⟨r1, r2, r3⟩ := R
  have k := cA_lk e r1
  exact ⟨k.1, by rw [(k.2 6 (by decide)).2]; exact r2, fun n => by rw [(k.2 6 (by decide)).1]; exact r3 n⟩
