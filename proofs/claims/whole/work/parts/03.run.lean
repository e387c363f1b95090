/-! ONE STEP IS A TAIL CALL; runs and calls out of it -/
def le (h h' : Mem) : Prop := mN h ≤ mN h' ∧ mC h ≤ mC h'
theorem le_rf (h : Mem) : le h h := ⟨Nat.le_refl _, Nat.le_refl _⟩
theorem le_tr {a b c : Mem} (x : le a b) (y : le b c) : le a c := ⟨Nat.le_trans x.1 y.1, Nat.le_trans x.2 y.2⟩
theorem le_mk (h : Mem) (k n : Nat) : le h (mk h k n) := ⟨Nat.le_succ _, Nat.le_add_right _ _⟩
abbrev Nx : Type := List Value → List Value → Mem → Rs
def Tl (h0 : Mem) (F : Nx → (Nat → Nx) → Rs) : Prop :=
  (∀ nx jp, F nx jp = none) ∨ (∃ v h', le h0 h' ∧ ∀ nx jp, F nx jp = some (v, h')) ∨ (∃ L S h', le h0 h' ∧ ∀ nx jp, F nx jp = nx L S h') ∨ (∃ t L S h', le h0 h' ∧ ∀ nx jp, F nx jp = jp t L S h')
theorem tl_no {h0 : Mem} : Tl h0 (fun _ _ => none) := Or.inl fun _ _ => rfl
theorem tl_rt {h0 : Mem} {v : Value} {h : Mem} (q : le h0 h) : Tl h0 (fun _ _ => some (v, h)) := Or.inr (Or.inl ⟨v, h, q, fun _ _ => rfl⟩)
theorem tl_nx {h0 : Mem} {L S : List Value} {h : Mem} (q : le h0 h) : Tl h0 (fun nx _ => nx L S h) := Or.inr (Or.inr (Or.inl ⟨L, S, h, q, fun _ _ => rfl⟩))
theorem tl_jp {h0 : Mem} {t : Nat} {L S : List Value} {h : Mem} (q : le h0 h) : Tl h0 (fun _ jp => jp t L S h) := Or.inr (Or.inr (Or.inr ⟨t, L, S, h, q, fun _ _ => rfl⟩))
theorem tl_if {h0 : Mem} {c : Prop} [Decidable c] {F G : Nx → (Nat → Nx) → Rs} (f : Tl h0 F) (g : Tl h0 G) : Tl h0 (fun nx jp => if c then F nx jp else G nx jp) := by
  by_cases q : c
  · simp only [q, if_true]; exact f
  · simp only [q, if_false]; exact g
theorem tl_ifn {h0 : Mem} {c : Prop} [Decidable c] {F : Nx → (Nat → Nx) → Rs} (f : Tl h0 F) : Tl h0 (fun nx jp => if c then F nx jp else none) := tl_if f tl_no
theorem tl_grd {h0 : Mem} {b : Bool} {F : Nx → (Nat → Nx) → Rs} (f : Tl h0 F) : Tl h0 (fun nx jp => grd b (F nx jp)) := by
  cases b
  · exact tl_no
  · exact f
theorem tl_sw {h0 : Mem} {L S : List Value} {d : Nat} {x : Int32} (sw : List (Int32 × Nat)) : Tl h0 (fun _ jp => swC sw d x fun t => jp t L S h0) := by
  induction sw with
  | nil => exact tl_jp (le_rf _)
  | cons q l ih =>
    obtain ⟨c, t⟩ := q
    show Tl h0 (fun _ jp => if x = c then jp t L S h0 else swC l d x fun t => jp t L S h0)
    exact tl_if (tl_jp (le_rf _)) ih
def Mono (cal : Nat → List Value → Mem → Rs) (rk : Nat → List Value → Nat) (r : Nat) : Prop := ∀ M a h v h', rk M a < r → cal M a h = some (v, h') → le h h'
theorem tl_ivk {cal : Nat → List Value → Mem → Rs} {rk : Nat → List Value → Nat} {r : Nat} (hm : Mono cal rk r) (M y z : Nat) (L S : List Value) (h : Mem) : Tl h (fun nx _ => ivk cal rk r M y z S h fun S h => nx L S h) := by
  unfold ivk
  split
  · exact tl_grd (tl_ifn (tl_nx (le_rf _)))
  · exact tl_grd (tl_ifn (tl_nx (le_mk h _ _)))
  · exact tl_grd (tl_nx (le_rf _))
  · exact tl_no
  · exact tl_no
  · exact tl_no
  · cases hg : (Nat.ble (catS (S.drop y)) 8 && Nat.blt (rk M (S.take y).reverse) r) with
    | false => exact tl_no
    | true =>
      have hr : rk M (S.take y).reverse < r := by
        simp only [Bool.and_eq_true] at hg
        exact Nat.blt_eq.mp hg.2
      show Tl h (fun nx _ => bnd z (cal M (S.take y).reverse h) (fun S h => nx L S h) (S.drop y))
      cases hc : cal M (S.take y).reverse h with
      | none =>
        unfold bnd
        split <;> exact tl_no
      | some q =>
        obtain ⟨v, h1⟩ := q
        have hl := hm _ _ _ _ _ hr hc
        unfold bnd
        split
        · cases v <;> first | exact tl_no | exact tl_nx hl
        · cases v <;> first | exact tl_no | exact tl_nx hl
        · cases v <;> first | exact tl_no | exact tl_nx hl
        · cases v <;> first | exact tl_no | exact tl_nx hl
set_option maxHeartbeats 4000000 in
theorem stC_tl {cal : Nat → List Value → Mem → Rs} {rk : Nat → List Value → Nat} {r : Nat} (hm : Mono cal rk r) (o : Op) (L S : List Value) (h : Mem) : Tl h (fun nx jp => stC cal rk r o nx jp L S h) := by
  obtain ⟨pc, i, len, x, y, z, v, sw⟩ := o
  cases i with
  | ifCond c _ =>
    cases c <;> (rcases S with _ | ⟨v1, S⟩; · exact tl_no) <;> cases v1 <;> first | exact tl_no | exact tl_if (tl_jp (le_rf _)) (tl_nx (le_rf _)) | exact tl_if (tl_nx (le_rf _)) (tl_jp (le_rf _))
  | if_icmp c _ =>
    cases c <;> (rcases S with _ | ⟨v1, S⟩; · exact tl_no) <;> cases v1 <;> first | exact tl_no | ((rcases S with _ | ⟨v2, S⟩; · exact tl_no) <;> cases v2 <;> first | exact tl_no | exact tl_if (tl_jp (le_rf _)) (tl_nx (le_rf _)) | exact tl_if (tl_nx (le_rf _)) (tl_jp (le_rf _)))
  | invokestatic _ => exact tl_ivk hm x y z L S h
  | invokevirtual _ => exact tl_ivk hm x y z L S h
  | invokespecial _ => exact tl_ivk hm x y z L S h
  | iload_n _ => (show Tl h (fun nx _ => match nth L x with | .int a => nx L (.int a :: S) h | _ => none)); cases nth L x <;> first | exact tl_no | exact tl_nx (le_rf _)
  | iload _ => (show Tl h (fun nx _ => match nth L x with | .int a => nx L (.int a :: S) h | _ => none)); cases nth L x <;> first | exact tl_no | exact tl_nx (le_rf _)
  | lload_n _ => (show Tl h (fun nx _ => match nth L x with | .long a => nx L (.long a :: S) h | _ => none)); cases nth L x <;> first | exact tl_no | exact tl_nx (le_rf _)
  | lload _ => (show Tl h (fun nx _ => match nth L x with | .long a => nx L (.long a :: S) h | _ => none)); cases nth L x <;> first | exact tl_no | exact tl_nx (le_rf _)
  | aload_n _ => (show Tl h (fun nx _ => match nth L x with | .ref a => nx L (.ref a :: S) h | _ => none)); cases nth L x <;> first | exact tl_no | exact tl_nx (le_rf _)
  | aload _ => (show Tl h (fun nx _ => match nth L x with | .ref a => nx L (.ref a :: S) h | _ => none)); cases nth L x <;> first | exact tl_no | exact tl_nx (le_rf _)
  | iinc _ _ => (show Tl h (fun nx _ => match nth L x, v with | .int a, .int c => nx (st1 L x (.int (a + c))) S h | _, _ => none)); cases nth L x <;> first | exact tl_no | (cases v <;> first | exact tl_no | exact tl_nx (le_rf _))
  | new _ => exact tl_nx (le_mk h _ _)
  | goto _ => exact tl_jp (le_rf _)
  | tableswitch _ _ _ _ => (rcases S with _ | ⟨v1, S⟩; · exact tl_no) <;> cases v1 <;> first | exact tl_no | exact tl_sw _
  | lookupswitch _ _ => (rcases S with _ | ⟨v1, S⟩; · exact tl_no) <;> cases v1 <;> first | exact tl_no | exact tl_sw _
  | getfield _ =>
    rcases z with _ | _ | _ | z <;> (rcases S with _ | ⟨v1, S⟩; · exact tl_no) <;> cases v1 <;> first | exact tl_no | exact tl_ifn (tl_nx (le_rf _))
  | putfield _ =>
    rcases z with _ | _ | _ | _ | z <;> (rcases S with _ | ⟨v1, S⟩; · exact tl_no) <;> cases v1 <;> first | exact tl_no | ((rcases S with _ | ⟨v2, S⟩; · exact tl_no) <;> cases v2 <;> first | exact tl_no | exact tl_ifn (tl_nx (le_rf _)))
  | ireturn =>
    (rcases S with _ | ⟨v1, S⟩; · exact tl_no) <;> cases v1 <;> first | exact tl_no | skip
    (rcases S with _ | ⟨v2, S⟩) <;> first | exact tl_no | skip
    rcases z with _ | _ | _ | z <;> first | exact tl_rt (le_rf _) | exact tl_ifn (tl_rt (le_rf _))
  | checkcast _ => (rcases S with _ | ⟨v1, S⟩; · exact tl_no) <;> cases v1 <;> first | exact tl_no | exact tl_grd (tl_nx (le_rf _))
  | newarray _ => (rcases S with _ | ⟨v1, S⟩; · exact tl_no) <;> cases v1 <;> first | exact tl_no | exact tl_ifn (tl_nx (le_mk h _ _))
  | anewarray _ => (rcases S with _ | ⟨v1, S⟩; · exact tl_no) <;> cases v1 <;> first | exact tl_no | exact tl_ifn (tl_nx (le_mk h _ _))
  | _ =>
    first
    | exact tl_no
    | exact tl_nx (le_rf _)
    | ((rcases S with _ | ⟨v1, S⟩) <;> first | exact tl_no | exact tl_rt (le_rf _))
    | ((rcases S with _ | ⟨v1, S⟩) <;> first | exact tl_no | (cases v1 <;> first | exact tl_no | exact tl_nx (le_rf _) | exact tl_ifn (tl_nx (le_rf _)) | exact tl_if (tl_jp (le_rf _)) (tl_nx (le_rf _)) | exact tl_if (tl_nx (le_rf _)) (tl_jp (le_rf _))))
    | ((rcases S with _ | ⟨v1, S⟩) <;> first | exact tl_no | (cases v1 <;> first | exact tl_no | ((rcases S with _ | ⟨v2, S⟩) <;> first | exact tl_no | exact tl_rt (le_rf _))))
    | ((rcases S with _ | ⟨v1, S⟩) <;> first | exact tl_no | (cases v1 <;> first | exact tl_no | exact tl_nx (le_rf _) | ((rcases S with _ | ⟨v2, S⟩) <;> first | exact tl_no | (cases v2 <;> first | exact tl_no | exact tl_nx (le_rf _) | exact tl_ifn (tl_nx (le_rf _)) | exact tl_if tl_no (tl_nx (le_rf _))))))
    | ((rcases S with _ | ⟨v1, S⟩) <;> first | exact tl_no | (cases v1 <;> first | exact tl_no | ((rcases S with _ | ⟨v2, S⟩) <;> first | exact tl_no | (cases v2 <;> first | exact tl_no | ((rcases S with _ | ⟨v3, S⟩) <;> first | exact tl_no | (cases v3 <;> first | exact tl_no | exact tl_ifn (tl_nx (le_rf _))))))))
