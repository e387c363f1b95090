/-! THE LAW, CALL BY CALL -/
def Stt (xs : Nat → Int32) (V : Vm) (z : Zz) : Prop := Fix z ∧ Fz z ∧ GI TXR (xI xs) V z
def Xv (xs : Nat → Int32) (j : Int) : Int := (xs j.toNat).toInt
def Nxt (L : Nat) (xs : Nat → Int32) (V J : Vm) (z : Zz) (j : Int) (pl : Nat) : Prop := ∃ V2 J2 z2, rX m_Law_law m_Law_law pl [.ref 6, .ref 8, .ref 435, .int (iv j)] [] (em V J z) = rX m_Law_law m_Law_law 18 [.ref 6, .ref 8, .ref 435, .int (iv (j + 6))] [] (em V2 J2 z2) ∧ Stt xs V2 z2 ∧ Rg L xs (em V2 J2 z2) ∧ z2.2.2.1 ≤ z.2.2.1 + 3 ∧ z2.2.2.2 ≤ z.2.2.2 + 1000
theorem Los_of {V : Vm} {xs : Nat → Int32} (h : Ext V (xI xs)) : Los V := fun k hk => by
  have e := h 1 (by decide) k
  rw [e]
  have all : ∀ k, k < 23 → (xlos.getD k 0).toInt = (LOS.getD k 0 : Nat) := by decide
  exact all k hk
section
variable {V J : Vm} {z : Zz} {L : Nat} {xs : Nat → Int32} {h : Mem} {j : Int}
theorem xv_r : -2147483648 ≤ Xv xs j ∧ Xv xs j < 2147483648 := by
  have h1 := Int32.le_toInt (xs j.toNat)
  have h2 := Int32.toInt_lt (xs j.toNat)
  unfold Xv
  omega
theorem ldS (R : Rg L xs h) (hL : L ≤ 3072) (j0 : 0 ≤ j) (j1 : j < L) {f : Int32 → Rs} : ldI h 6 (iv j) f = f (iv (Xv xs j)) := by
  have b := ibi (i := j) (n := L) ⟨j0, j1⟩ (by omega)
  have c : (iv j).toNatClampNeg = j.toNat := by
    have q1 : (iv j).toInt = j := iv_toInt (by omega)
    show (iv j).toInt.toNat = j.toNat
    rw [q1]
  have e : ldI h 6 (iv j) f = f (mI h 6 (iv j).toNatClampNeg) := if_pos ⟨by rw [R.2.1]; rfl, by rw [R.2.1]; exact b⟩
  rw [e, c, R.2.2, show iv (Xv xs j) = xs j.toNat from Int32.ofInt_toInt _]
theorem ld1 (R : Rg L xs h) (hL : L ≤ 3072) (hj : 0 ≤ j ∧ j + 6 ≤ L) {f : Int32 → Rs} : ldI h 6 (iv j + 1) f = f (iv (Xv xs (j + 1))) := by
  rw [show (1 : Int32) = iv 1 from rfl, iv_add]
  exact ldS R hL (by omega) (by omega)
theorem ld2 (R : Rg L xs h) (hL : L ≤ 3072) (hj : 0 ≤ j ∧ j + 6 ≤ L) {f : Int32 → Rs} : ldI h 6 (iv j + 2) f = f (iv (Xv xs (j + 2))) := by
  rw [show (2 : Int32) = iv 2 from rfl, iv_add]
  exact ldS R hL (by omega) (by omega)
theorem ld3 (R : Rg L xs h) (hL : L ≤ 3072) (hj : 0 ≤ j ∧ j + 6 ≤ L) {f : Int32 → Rs} : ldI h 6 (iv j + 3) f = f (iv (Xv xs (j + 3))) := by
  rw [show (3 : Int32) = iv 3 from rfl, iv_add]
  exact ldS R hL (by omega) (by omega)
theorem ld4 (R : Rg L xs h) (hL : L ≤ 3072) (hj : 0 ≤ j ∧ j + 6 ≤ L) {f : Int32 → Rs} : ldI h 6 (iv j + 4) f = f (iv (Xv xs (j + 4))) := by
  rw [show (4 : Int32) = iv 4 from rfl, iv_add]
  exact ldS R hL (by omega) (by omega)
theorem ld5 (R : Rg L xs h) (hL : L ≤ 3072) (hj : 0 ≤ j ∧ j + 6 ≤ L) {f : Int32 → Rs} : ldI h 6 (iv j + 5) f = f (iv (Xv xs (j + 5))) := by
  rw [show (5 : Int32) = iv 5 from rfl, iv_add]
  exact ldS R hL (by omega) (by omega)
theorem n_on {h : Mem} : rX m_Law_law m_Law_law 1668 [.ref 6, .ref 8, .ref 435, .int (iv j)] [] h = rX m_Law_law m_Law_law 18 [.ref 6, .ref 8, .ref 435, .int (iv (j + 6))] [] h := by
  rw [q_Law_law_1668, show (6 : Int32) = iv 6 from rfl, iv_add]
theorem n_kin (S : Stt xs V z) (R : Rg L xs (em V J z)) (hL : L ≤ 3072) (hj : 0 ≤ j ∧ j + 6 ≤ L) : Nxt L xs V J z j 244 := by
  obtain ⟨F, Z, g⟩ := S
  have r1 := xv_r (xs := xs) (j := j + 1)
  have r2 := xv_r (xs := xs) (j := j + 2)
  have pp : Pz TXR (xI xs) V J z (fun h => cA m_X_kin [.ref 8, .int (iv (Xv xs (j + 1))), .int (iv (Xv xs (j + 2)))] h) (fun h => cA m_M_kin [.ref 435, .int (iv (Xv xs (j + 1))), .int (iv (Xv xs (j + 2)))] h) := (p_kin F TXR_ok g r1 r2).pz F Z
  obtain ⟨e, V1, J1, z1, V2, J2, z2, h1, h2, g2, F2, Z2, n2, c2⟩ := pp
  have h1 : cA m_X_kin [.ref 8, .int (iv (Xv xs (j + 1))), .int (iv (Xv xs (j + 2)))] (em V J z) = some (.int (iv e), em V1 J1 z1) := h1
  have h2 : cA m_M_kin [.ref 435, .int (iv (Xv xs (j + 1))), .int (iv (Xv xs (j + 2)))] (em V1 J1 z1) = some (.int (iv e), em V2 J2 z2) := h2
  have R1 := R.go h1
  have R2 := R1.go h2
  exact ⟨V2, J2, z2, by rw [q_Law_law_244, ld1 R hL hj, ld2 R hL hj, h1, bnI_s, ld1 R1 hL hj, ld2 R1 hL hj, h2, bnI_s, if_pos rfl, n_on], ⟨F2, Z2, g2⟩, R2, n2, c2⟩
theorem n_feed (S : Stt xs V z) (R : Rg L xs (em V J z)) (hL : L ≤ 3072) (hj : 0 ≤ j ∧ j + 6 ≤ L) : Nxt L xs V J z j 277 := by
  obtain ⟨F, Z, g⟩ := S
  have r1 := xv_r (xs := xs) (j := j + 1)
  have r2 := xv_r (xs := xs) (j := j + 2)
  have r3 := xv_r (xs := xs) (j := j + 3)
  have r4 := xv_r (xs := xs) (j := j + 4)
  have r5 := xv_r (xs := xs) (j := j + 5)
  have pp : Pz TXR (xI xs) V J z (fun h => cA m_X_feed [.ref 8, .int (iv (Xv xs (j + 1))), .int (iv (Xv xs (j + 2))), .int (iv (Xv xs (j + 3))), .int (iv (Xv xs (j + 4))), .int (iv (Xv xs (j + 5)))] h) (fun h => cA m_M_feed [.ref 435, .int (iv (Xv xs (j + 1))), .int (iv (Xv xs (j + 2))), .int (iv (Xv xs (j + 3))), .int (iv (Xv xs (j + 4))), .int (iv (Xv xs (j + 5)))] h) := (p_feed F TXR_ok g (x1 := Xv xs (j + 1)) (x2 := Xv xs (j + 2)) (x3 := Xv xs (j + 3)) (x4 := Xv xs (j + 4)) (x5 := Xv xs (j + 5)) (J := J)).pz F Z
  obtain ⟨e, V1, J1, z1, V2, J2, z2, h1, h2, g2, F2, Z2, n2, c2⟩ := pp
  have h1 : cA m_X_feed [.ref 8, .int (iv (Xv xs (j + 1))), .int (iv (Xv xs (j + 2))), .int (iv (Xv xs (j + 3))), .int (iv (Xv xs (j + 4))), .int (iv (Xv xs (j + 5)))] (em V J z) = some (.int (iv e), em V1 J1 z1) := h1
  have h2 : cA m_M_feed [.ref 435, .int (iv (Xv xs (j + 1))), .int (iv (Xv xs (j + 2))), .int (iv (Xv xs (j + 3))), .int (iv (Xv xs (j + 4))), .int (iv (Xv xs (j + 5)))] (em V1 J1 z1) = some (.int (iv e), em V2 J2 z2) := h2
  have R1 := R.go h1
  have R2 := R1.go h2
  exact ⟨V2, J2, z2, by rw [q_Law_law_277, ld1 R hL hj, ld2 R hL hj, ld3 R hL hj, ld4 R hL hj, ld5 R hL hj, h1, bnI_s, ld1 R1 hL hj, ld2 R1 hL hj, ld3 R1 hL hj, ld4 R1 hL hj, ld5 R1 hL hj, h2, bnI_s, if_pos rfl, n_on], ⟨F2, Z2, g2⟩, R2, n2, c2⟩
theorem n_end (S : Stt xs V z) (R : Rg L xs (em V J z)) (hL : L ≤ 3072) (hj : 0 ≤ j ∧ j + 6 ≤ L) : Nxt L xs V J z j 340 := by
  obtain ⟨F, Z, g⟩ := S
  have r1 := xv_r (xs := xs) (j := j + 1)
  have pp : Pz TXR (xI xs) V J z (fun h => cA m_X_end [.ref 8, .int (iv (Xv xs (j + 1)))] h) (fun h => cA m_M_end [.ref 435, .int (iv (Xv xs (j + 1)))] h) := (p_end F TXR_ok g r1).pz F Z
  obtain ⟨e, V1, J1, z1, V2, J2, z2, h1, h2, g2, F2, Z2, n2, c2⟩ := pp
  have h1 : cA m_X_end [.ref 8, .int (iv (Xv xs (j + 1)))] (em V J z) = some (.int (iv e), em V1 J1 z1) := h1
  have h2 : cA m_M_end [.ref 435, .int (iv (Xv xs (j + 1)))] (em V1 J1 z1) = some (.int (iv e), em V2 J2 z2) := h2
  have R1 := R.go h1
  have R2 := R1.go h2
  exact ⟨V2, J2, z2, by rw [q_Law_law_340, ld1 R hL hj, h1, bnI_s, ld1 R1 hL hj, h2, bnI_s, if_pos rfl, n_on], ⟨F2, Z2, g2⟩, R2, n2, c2⟩
theorem n_text (S : Stt xs V z) (R : Rg L xs (em V J z)) (hL : L ≤ 3072) (hj : 0 ≤ j ∧ j + 6 ≤ L) : Nxt L xs V J z j 363 := by
  obtain ⟨F, Z, g⟩ := S
  have pp : Pz TXR (xI xs) V J z (fun h => cA m_X_text [.ref 8] h) (fun h => cA m_M_text [.ref 435] h) := p_text F Z g
  obtain ⟨e, V1, J1, z1, V2, J2, z2, h1, h2, g2, F2, Z2, n2, c2⟩ := pp
  have h1 : cA m_X_text [.ref 8] (em V J z) = some (.int (iv e), em V1 J1 z1) := h1
  have h2 : cA m_M_text [.ref 435] (em V1 J1 z1) = some (.int (iv e), em V2 J2 z2) := h2
  have R1 := R.go h1
  have R2 := R1.go h2
  exact ⟨V2, J2, z2, by rw [q_Law_law_363, h1, bnI_s, h2, bnI_s, if_pos rfl, n_on], ⟨F2, Z2, g2⟩, R2, n2, c2⟩
theorem n_fault (S : Stt xs V z) (R : Rg L xs (em V J z)) (hL : L ≤ 3072) (hj : 0 ≤ j ∧ j + 6 ≤ L) : Nxt L xs V J z j 376 := by
  obtain ⟨F, Z, g⟩ := S
  have r1 := xv_r (xs := xs) (j := j + 1)
  have pp : Pz TXR (xI xs) V J z (fun h => cA m_X_fault [.ref 8, .int (iv (Xv xs (j + 1)))] h) (fun h => cA m_M_fault [.ref 435, .int (iv (Xv xs (j + 1)))] h) := ((p_fault F g r1).pc TXR_ok g).pz F Z
  obtain ⟨e, V1, J1, z1, V2, J2, z2, h1, h2, g2, F2, Z2, n2, c2⟩ := pp
  have h1 : cA m_X_fault [.ref 8, .int (iv (Xv xs (j + 1)))] (em V J z) = some (.int (iv e), em V1 J1 z1) := h1
  have h2 : cA m_M_fault [.ref 435, .int (iv (Xv xs (j + 1)))] (em V1 J1 z1) = some (.int (iv e), em V2 J2 z2) := h2
  have R1 := R.go h1
  have R2 := R1.go h2
  exact ⟨V2, J2, z2, by rw [q_Law_law_376, ld1 R hL hj, h1, bnI_s, ld1 R1 hL hj, h2, bnI_s, if_pos rfl, n_on], ⟨F2, Z2, g2⟩, R2, n2, c2⟩
theorem n_by (S : Stt xs V z) (R : Rg L xs (em V J z)) (hL : L ≤ 3072) (hj : 0 ≤ j ∧ j + 6 ≤ L) : Nxt L xs V J z j 399 := by
  obtain ⟨F, Z, g⟩ := S
  have r1 := xv_r (xs := xs) (j := j + 1)
  have pp : Pz TXR (xI xs) V J z (fun h => cA m_X_by [.ref 8, .int (iv (Xv xs (j + 1)))] h) (fun h => cA m_M_by [.ref 435, .int (iv (Xv xs (j + 1)))] h) := (p_by F TXR_ok g r1).pz F Z
  obtain ⟨e, V1, J1, z1, V2, J2, z2, h1, h2, g2, F2, Z2, n2, c2⟩ := pp
  have h1 : cA m_X_by [.ref 8, .int (iv (Xv xs (j + 1)))] (em V J z) = some (.int (iv e), em V1 J1 z1) := h1
  have h2 : cA m_M_by [.ref 435, .int (iv (Xv xs (j + 1)))] (em V1 J1 z1) = some (.int (iv e), em V2 J2 z2) := h2
  have R1 := R.go h1
  have R2 := R1.go h2
  exact ⟨V2, J2, z2, by rw [q_Law_law_399, ld1 R hL hj, h1, bnI_s, ld1 R1 hL hj, h2, bnI_s, if_pos rfl, n_on], ⟨F2, Z2, g2⟩, R2, n2, c2⟩
theorem n_reach (S : Stt xs V z) (R : Rg L xs (em V J z)) (hL : L ≤ 3072) (hj : 0 ≤ j ∧ j + 6 ≤ L) : Nxt L xs V J z j 422 := by
  obtain ⟨F, Z, g⟩ := S
  have r1 := xv_r (xs := xs) (j := j + 1)
  have pp : Pz TXR (xI xs) V J z (fun h => cA m_X_reach [.ref 8, .int (iv (Xv xs (j + 1)))] h) (fun h => cA m_M_reach [.ref 435, .int (iv (Xv xs (j + 1)))] h) := ((d_reach F r1).pc TXR_ok g).pz F Z
  obtain ⟨e, V1, J1, z1, V2, J2, z2, h1, h2, g2, F2, Z2, n2, c2⟩ := pp
  have h1 : cA m_X_reach [.ref 8, .int (iv (Xv xs (j + 1)))] (em V J z) = some (.int (iv e), em V1 J1 z1) := h1
  have h2 : cA m_M_reach [.ref 435, .int (iv (Xv xs (j + 1)))] (em V1 J1 z1) = some (.int (iv e), em V2 J2 z2) := h2
  have R1 := R.go h1
  have R2 := R1.go h2
  exact ⟨V2, J2, z2, by rw [q_Law_law_422, ld1 R hL hj, h1, bnI_s, ld1 R1 hL hj, h2, bnI_s, if_pos rfl, n_on], ⟨F2, Z2, g2⟩, R2, n2, c2⟩
theorem n_down (S : Stt xs V z) (R : Rg L xs (em V J z)) (hL : L ≤ 3072) (hj : 0 ≤ j ∧ j + 6 ≤ L) : Nxt L xs V J z j 445 := by
  obtain ⟨F, Z, g⟩ := S
  have r1 := xv_r (xs := xs) (j := j + 1)
  have r2 := xv_r (xs := xs) (j := j + 2)
  have pp : Pz TXR (xI xs) V J z (fun h => cA m_X_down [.ref 8, .int (iv (Xv xs (j + 1))), .int (iv (Xv xs (j + 2)))] h) (fun h => cA m_M_down [.ref 435, .int (iv (Xv xs (j + 1))), .int (iv (Xv xs (j + 2)))] h) := ((d_down F r1 r2).pc TXR_ok g).pz F Z
  obtain ⟨e, V1, J1, z1, V2, J2, z2, h1, h2, g2, F2, Z2, n2, c2⟩ := pp
  have h1 : cA m_X_down [.ref 8, .int (iv (Xv xs (j + 1))), .int (iv (Xv xs (j + 2)))] (em V J z) = some (.int (iv e), em V1 J1 z1) := h1
  have h2 : cA m_M_down [.ref 435, .int (iv (Xv xs (j + 1))), .int (iv (Xv xs (j + 2)))] (em V1 J1 z1) = some (.int (iv e), em V2 J2 z2) := h2
  have R1 := R.go h1
  have R2 := R1.go h2
  exact ⟨V2, J2, z2, by rw [q_Law_law_445, ld1 R hL hj, ld2 R hL hj, h1, bnI_s, ld1 R1 hL hj, ld2 R1 hL hj, h2, bnI_s, if_pos rfl, n_on], ⟨F2, Z2, g2⟩, R2, n2, c2⟩
theorem n_strap (S : Stt xs V z) (R : Rg L xs (em V J z)) (hL : L ≤ 3072) (hj : 0 ≤ j ∧ j + 6 ≤ L) : Nxt L xs V J z j 478 := by
  obtain ⟨F, Z, g⟩ := S
  have r1 := xv_r (xs := xs) (j := j + 1)
  have pp : Pz TXR (xI xs) V J z (fun h => cA m_X_strap [.ref 8, .int (iv (Xv xs (j + 1)))] h) (fun h => cA m_M_strap [.ref 435, .int (iv (Xv xs (j + 1)))] h) := ((d_strap F r1).pc TXR_ok g).pz F Z
  obtain ⟨e, V1, J1, z1, V2, J2, z2, h1, h2, g2, F2, Z2, n2, c2⟩ := pp
  have h1 : cA m_X_strap [.ref 8, .int (iv (Xv xs (j + 1)))] (em V J z) = some (.int (iv e), em V1 J1 z1) := h1
  have h2 : cA m_M_strap [.ref 435, .int (iv (Xv xs (j + 1)))] (em V1 J1 z1) = some (.int (iv e), em V2 J2 z2) := h2
  have R1 := R.go h1
  have R2 := R1.go h2
  exact ⟨V2, J2, z2, by rw [q_Law_law_478, ld1 R hL hj, h1, bnI_s, ld1 R1 hL hj, h2, bnI_s, if_pos rfl, n_on], ⟨F2, Z2, g2⟩, R2, n2, c2⟩
theorem n_swap (S : Stt xs V z) (R : Rg L xs (em V J z)) (hL : L ≤ 3072) (hj : 0 ≤ j ∧ j + 6 ≤ L) : Nxt L xs V J z j 501 := by
  obtain ⟨F, Z, g⟩ := S
  have r1 := xv_r (xs := xs) (j := j + 1)
  have r2 := xv_r (xs := xs) (j := j + 2)
  have pp : Pz TXR (xI xs) V J z (fun h => cA m_X_swap [.ref 8, .int (iv (Xv xs (j + 1))), .int (iv (Xv xs (j + 2)))] h) (fun h => cA m_M_swap [.ref 435, .int (iv (Xv xs (j + 1))), .int (iv (Xv xs (j + 2)))] h) := ((d_swap F r1 r2).pc TXR_ok g).pz F Z
  obtain ⟨e, V1, J1, z1, V2, J2, z2, h1, h2, g2, F2, Z2, n2, c2⟩ := pp
  have h1 : cA m_X_swap [.ref 8, .int (iv (Xv xs (j + 1))), .int (iv (Xv xs (j + 2)))] (em V J z) = some (.int (iv e), em V1 J1 z1) := h1
  have h2 : cA m_M_swap [.ref 435, .int (iv (Xv xs (j + 1))), .int (iv (Xv xs (j + 2)))] (em V1 J1 z1) = some (.int (iv e), em V2 J2 z2) := h2
  have R1 := R.go h1
  have R2 := R1.go h2
  exact ⟨V2, J2, z2, by rw [q_Law_law_501, ld1 R hL hj, ld2 R hL hj, h1, bnI_s, ld1 R1 hL hj, ld2 R1 hL hj, h2, bnI_s, if_pos rfl, n_on], ⟨F2, Z2, g2⟩, R2, n2, c2⟩
theorem n_dinner (S : Stt xs V z) (R : Rg L xs (em V J z)) (hL : L ≤ 3072) (hj : 0 ≤ j ∧ j + 6 ≤ L) : Nxt L xs V J z j 534 := by
  obtain ⟨F, Z, g⟩ := S
  obtain ⟨q, i, rv, bv, Lw⟩ := Lc_of F g
  have r1 := xv_r (xs := xs) (j := j + 1)
  have pp : Pz TXR (xI xs) V J z (fun h => cA m_X_dinner [.ref 8, .int (iv (Xv xs (j + 1)))] h) (fun h => cA m_M_dinner [.ref 435, .int (iv (Xv xs (j + 1)))] h) := ((d_dinner F Lw r1).pc TXR_ok g).pz F Z
  obtain ⟨e, V1, J1, z1, V2, J2, z2, h1, h2, g2, F2, Z2, n2, c2⟩ := pp
  have h1 : cA m_X_dinner [.ref 8, .int (iv (Xv xs (j + 1)))] (em V J z) = some (.int (iv e), em V1 J1 z1) := h1
  have h2 : cA m_M_dinner [.ref 435, .int (iv (Xv xs (j + 1)))] (em V1 J1 z1) = some (.int (iv e), em V2 J2 z2) := h2
  have R1 := R.go h1
  have R2 := R1.go h2
  exact ⟨V2, J2, z2, by rw [q_Law_law_534, ld1 R hL hj, h1, bnI_s, ld1 R1 hL hj, h2, bnI_s, if_pos rfl, n_on], ⟨F2, Z2, g2⟩, R2, n2, c2⟩
theorem n_played (S : Stt xs V z) (R : Rg L xs (em V J z)) (hL : L ≤ 3072) (hj : 0 ≤ j ∧ j + 6 ≤ L) : Nxt L xs V J z j 557 := by
  obtain ⟨F, Z, g⟩ := S
  obtain ⟨q, i, rv, bv, Lw⟩ := Lc_of F g
  have r1 := xv_r (xs := xs) (j := j + 1)
  have pp : Pz TXR (xI xs) V J z (fun h => cA m_X_played [.ref 8, .int (iv (Xv xs (j + 1)))] h) (fun h => cA m_M_played [.ref 435, .int (iv (Xv xs (j + 1)))] h) := ((d_played F g Lw r1).pc TXR_ok g).pz F Z
  obtain ⟨e, V1, J1, z1, V2, J2, z2, h1, h2, g2, F2, Z2, n2, c2⟩ := pp
  have h1 : cA m_X_played [.ref 8, .int (iv (Xv xs (j + 1)))] (em V J z) = some (.int (iv e), em V1 J1 z1) := h1
  have h2 : cA m_M_played [.ref 435, .int (iv (Xv xs (j + 1)))] (em V1 J1 z1) = some (.int (iv e), em V2 J2 z2) := h2
  have R1 := R.go h1
  have R2 := R1.go h2
  exact ⟨V2, J2, z2, by rw [q_Law_law_557, ld1 R hL hj, h1, bnI_s, ld1 R1 hL hj, h2, bnI_s, if_pos rfl, n_on], ⟨F2, Z2, g2⟩, R2, n2, c2⟩
theorem n_years (S : Stt xs V z) (R : Rg L xs (em V J z)) (hL : L ≤ 3072) (hj : 0 ≤ j ∧ j + 6 ≤ L) : Nxt L xs V J z j 580 := by
  obtain ⟨F, Z, g⟩ := S
  obtain ⟨q, i, rv, bv, Lw⟩ := Lc_of F g
  have r1 := xv_r (xs := xs) (j := j + 1)
  have r2 := xv_r (xs := xs) (j := j + 2)
  have pp : Pz TXR (xI xs) V J z (fun h => cA m_X_years [.ref 8, .int (iv (Xv xs (j + 1))), .int (iv (Xv xs (j + 2)))] h) (fun h => cA m_M_years [.ref 435, .int (iv (Xv xs (j + 1))), .int (iv (Xv xs (j + 2)))] h) := ((d_years F Lw r1 r2).pc TXR_ok g).pz F Z
  obtain ⟨e, V1, J1, z1, V2, J2, z2, h1, h2, g2, F2, Z2, n2, c2⟩ := pp
  have h1 : cA m_X_years [.ref 8, .int (iv (Xv xs (j + 1))), .int (iv (Xv xs (j + 2)))] (em V J z) = some (.int (iv e), em V1 J1 z1) := h1
  have h2 : cA m_M_years [.ref 435, .int (iv (Xv xs (j + 1))), .int (iv (Xv xs (j + 2)))] (em V1 J1 z1) = some (.int (iv e), em V2 J2 z2) := h2
  have R1 := R.go h1
  have R2 := R1.go h2
  exact ⟨V2, J2, z2, by rw [q_Law_law_580, ld1 R hL hj, ld2 R hL hj, h1, bnI_s, ld1 R1 hL hj, ld2 R1 hL hj, h2, bnI_s, if_pos rfl, n_on], ⟨F2, Z2, g2⟩, R2, n2, c2⟩
theorem n_undo (S : Stt xs V z) (R : Rg L xs (em V J z)) (hL : L ≤ 3072) (hj : 0 ≤ j ∧ j + 6 ≤ L) : Nxt L xs V J z j 613 := by
  obtain ⟨F, Z, g⟩ := S
  have pp : Pz TXR (xI xs) V J z (fun h => cA m_X_undo [.ref 8] h) (fun h => cA m_M_undo [.ref 435] h) := ((d_undo F).pc TXR_ok g).pz F Z
  obtain ⟨e, V1, J1, z1, V2, J2, z2, h1, h2, g2, F2, Z2, n2, c2⟩ := pp
  have h1 : cA m_X_undo [.ref 8] (em V J z) = some (.int (iv e), em V1 J1 z1) := h1
  have h2 : cA m_M_undo [.ref 435] (em V1 J1 z1) = some (.int (iv e), em V2 J2 z2) := h2
  have R1 := R.go h1
  have R2 := R1.go h2
  exact ⟨V2, J2, z2, by rw [q_Law_law_613, h1, bnI_s, h2, bnI_s, if_pos rfl, n_on], ⟨F2, Z2, g2⟩, R2, n2, c2⟩
theorem n_of (S : Stt xs V z) (R : Rg L xs (em V J z)) (hL : L ≤ 3072) (hj : 0 ≤ j ∧ j + 6 ≤ L) : Nxt L xs V J z j 626 := by
  obtain ⟨F, Z, g⟩ := S
  obtain ⟨q, i, rv, bv, Lw⟩ := Lc_of F g
  have r1 := xv_r (xs := xs) (j := j + 1)
  have r2 := xv_r (xs := xs) (j := j + 2)
  have pp : Pz TXR (xI xs) V J z (fun h => cA m_X_of [.ref 8, .int (iv (Xv xs (j + 1))), .int (iv (Xv xs (j + 2)))] h) (fun h => cA m_M_of [.ref 435, .int (iv (Xv xs (j + 1))), .int (iv (Xv xs (j + 2)))] h) := ((p_of F g Lw r1 r2).pc TXR_ok g).pz F Z
  obtain ⟨e, V1, J1, z1, V2, J2, z2, h1, h2, g2, F2, Z2, n2, c2⟩ := pp
  have h1 : cA m_X_of [.ref 8, .int (iv (Xv xs (j + 1))), .int (iv (Xv xs (j + 2)))] (em V J z) = some (.int (iv e), em V1 J1 z1) := h1
  have h2 : cA m_M_of [.ref 435, .int (iv (Xv xs (j + 1))), .int (iv (Xv xs (j + 2)))] (em V1 J1 z1) = some (.int (iv e), em V2 J2 z2) := h2
  have R1 := R.go h1
  have R2 := R1.go h2
  exact ⟨V2, J2, z2, by rw [q_Law_law_626, ld1 R hL hj, ld2 R hL hj, h1, bnI_s, ld1 R1 hL hj, ld2 R1 hL hj, h2, bnI_s, if_pos rfl, n_on], ⟨F2, Z2, g2⟩, R2, n2, c2⟩
theorem n_at (S : Stt xs V z) (R : Rg L xs (em V J z)) (hL : L ≤ 3072) (hj : 0 ≤ j ∧ j + 6 ≤ L) : Nxt L xs V J z j 659 := by
  obtain ⟨F, Z, g⟩ := S
  have r1 := xv_r (xs := xs) (j := j + 1)
  have pp : Pz TXR (xI xs) V J z (fun h => cA m_X_at [.ref 8, .int (iv (Xv xs (j + 1)))] h) (fun h => cA m_M_at [.ref 435, .int (iv (Xv xs (j + 1)))] h) := ((p_at F g r1).pc TXR_ok g).pz F Z
  obtain ⟨e, V1, J1, z1, V2, J2, z2, h1, h2, g2, F2, Z2, n2, c2⟩ := pp
  have h1 : cA m_X_at [.ref 8, .int (iv (Xv xs (j + 1)))] (em V J z) = some (.int (iv e), em V1 J1 z1) := h1
  have h2 : cA m_M_at [.ref 435, .int (iv (Xv xs (j + 1)))] (em V1 J1 z1) = some (.int (iv e), em V2 J2 z2) := h2
  have R1 := R.go h1
  have R2 := R1.go h2
  exact ⟨V2, J2, z2, by rw [q_Law_law_659, ld1 R hL hj, h1, bnI_s, ld1 R1 hL hj, h2, bnI_s, if_pos rfl, n_on], ⟨F2, Z2, g2⟩, R2, n2, c2⟩
theorem n_is (S : Stt xs V z) (R : Rg L xs (em V J z)) (hL : L ≤ 3072) (hj : 0 ≤ j ∧ j + 6 ≤ L) : Nxt L xs V J z j 682 := by
  obtain ⟨F, Z, g⟩ := S
  have r1 := xv_r (xs := xs) (j := j + 1)
  have pp : Pz TXR (xI xs) V J z (fun h => cA m_X_is [.ref 8, .int (iv (Xv xs (j + 1)))] h) (fun h => cA m_M_is [.ref 435, .int (iv (Xv xs (j + 1)))] h) := ((p_is F g r1).pc TXR_ok g).pz F Z
  obtain ⟨e, V1, J1, z1, V2, J2, z2, h1, h2, g2, F2, Z2, n2, c2⟩ := pp
  have h1 : cA m_X_is [.ref 8, .int (iv (Xv xs (j + 1)))] (em V J z) = some (.int (iv e), em V1 J1 z1) := h1
  have h2 : cA m_M_is [.ref 435, .int (iv (Xv xs (j + 1)))] (em V1 J1 z1) = some (.int (iv e), em V2 J2 z2) := h2
  have R1 := R.go h1
  have R2 := R1.go h2
  exact ⟨V2, J2, z2, by rw [q_Law_law_682, ld1 R hL hj, h1, bnI_s, ld1 R1 hL hj, h2, bnI_s, if_pos rfl, n_on], ⟨F2, Z2, g2⟩, R2, n2, c2⟩
theorem n_book (S : Stt xs V z) (R : Rg L xs (em V J z)) (hL : L ≤ 3072) (hj : 0 ≤ j ∧ j + 6 ≤ L) : Nxt L xs V J z j 705 := by
  obtain ⟨F, Z, g⟩ := S
  have r1 := xv_r (xs := xs) (j := j + 1)
  have r2 := xv_r (xs := xs) (j := j + 2)
  have pp : Pz TXR (xI xs) V J z (fun h => cA m_X_book [.ref 8, .int (iv (Xv xs (j + 1))), .int (iv (Xv xs (j + 2)))] h) (fun h => cA m_M_book [.ref 435, .int (iv (Xv xs (j + 1))), .int (iv (Xv xs (j + 2)))] h) := ((p_book F g r1 r2).pc TXR_ok g).pz F Z
  obtain ⟨e, V1, J1, z1, V2, J2, z2, h1, h2, g2, F2, Z2, n2, c2⟩ := pp
  have h1 : cA m_X_book [.ref 8, .int (iv (Xv xs (j + 1))), .int (iv (Xv xs (j + 2)))] (em V J z) = some (.int (iv e), em V1 J1 z1) := h1
  have h2 : cA m_M_book [.ref 435, .int (iv (Xv xs (j + 1))), .int (iv (Xv xs (j + 2)))] (em V1 J1 z1) = some (.int (iv e), em V2 J2 z2) := h2
  have R1 := R.go h1
  have R2 := R1.go h2
  exact ⟨V2, J2, z2, by rw [q_Law_law_705, ld1 R hL hj, ld2 R hL hj, h1, bnI_s, ld1 R1 hL hj, ld2 R1 hL hj, h2, bnI_s, if_pos rfl, n_on], ⟨F2, Z2, g2⟩, R2, n2, c2⟩
theorem n_foretold (S : Stt xs V z) (R : Rg L xs (em V J z)) (hL : L ≤ 3072) (hj : 0 ≤ j ∧ j + 6 ≤ L) : Nxt L xs V J z j 738 := by
  obtain ⟨F, Z, g⟩ := S
  obtain ⟨q, i, rv, bv, Lw⟩ := Lc_of F g
  have r1 := xv_r (xs := xs) (j := j + 1)
  have r2 := xv_r (xs := xs) (j := j + 2)
  have pp : Pz TXR (xI xs) V J z (fun h => cA m_X_foretold [.ref 8, .int (iv (Xv xs (j + 1))), .int (iv (Xv xs (j + 2)))] h) (fun h => cA m_M_foretold [.ref 435, .int (iv (Xv xs (j + 1))), .int (iv (Xv xs (j + 2)))] h) := ((p_foretold F TXR g Lw r1 r2).pc TXR_ok g).pz F Z
  obtain ⟨e, V1, J1, z1, V2, J2, z2, h1, h2, g2, F2, Z2, n2, c2⟩ := pp
  have h1 : cA m_X_foretold [.ref 8, .int (iv (Xv xs (j + 1))), .int (iv (Xv xs (j + 2)))] (em V J z) = some (.int (iv e), em V1 J1 z1) := h1
  have h2 : cA m_M_foretold [.ref 435, .int (iv (Xv xs (j + 1))), .int (iv (Xv xs (j + 2)))] (em V1 J1 z1) = some (.int (iv e), em V2 J2 z2) := h2
  have R1 := R.go h1
  have R2 := R1.go h2
  exact ⟨V2, J2, z2, by rw [q_Law_law_738, ld1 R hL hj, ld2 R hL hj, h1, bnI_s, ld1 R1 hL hj, ld2 R1 hL hj, h2, bnI_s, if_pos rfl, n_on], ⟨F2, Z2, g2⟩, R2, n2, c2⟩
theorem n_spite (S : Stt xs V z) (R : Rg L xs (em V J z)) (hL : L ≤ 3072) (hj : 0 ≤ j ∧ j + 6 ≤ L) : Nxt L xs V J z j 771 := by
  obtain ⟨F, Z, g⟩ := S
  have r1 := xv_r (xs := xs) (j := j + 1)
  have r2 := xv_r (xs := xs) (j := j + 2)
  have r3 := xv_r (xs := xs) (j := j + 3)
  have pp : Pz TXR (xI xs) V J z (fun h => cA m_X_spite [.ref 8, .int (iv (Xv xs (j + 1))), .int (iv (Xv xs (j + 2))), .int (iv (Xv xs (j + 3)))] h) (fun h => cA m_M_spite [.ref 435, .int (iv (Xv xs (j + 1))), .int (iv (Xv xs (j + 2))), .int (iv (Xv xs (j + 3)))] h) := (p_spite F TXR_ok g r1 r2 r3).pz F Z
  obtain ⟨e, V1, J1, z1, V2, J2, z2, h1, h2, g2, F2, Z2, n2, c2⟩ := pp
  have h1 : cA m_X_spite [.ref 8, .int (iv (Xv xs (j + 1))), .int (iv (Xv xs (j + 2))), .int (iv (Xv xs (j + 3)))] (em V J z) = some (.int (iv e), em V1 J1 z1) := h1
  have h2 : cA m_M_spite [.ref 435, .int (iv (Xv xs (j + 1))), .int (iv (Xv xs (j + 2))), .int (iv (Xv xs (j + 3)))] (em V1 J1 z1) = some (.int (iv e), em V2 J2 z2) := h2
  have R1 := R.go h1
  have R2 := R1.go h2
  exact ⟨V2, J2, z2, by rw [q_Law_law_771, ld1 R hL hj, ld2 R hL hj, ld3 R hL hj, h1, bnI_s, ld1 R1 hL hj, ld2 R1 hL hj, ld3 R1 hL hj, h2, bnI_s, if_pos rfl, n_on], ⟨F2, Z2, g2⟩, R2, n2, c2⟩
theorem n_seating (S : Stt xs V z) (R : Rg L xs (em V J z)) (hL : L ≤ 3072) (hj : 0 ≤ j ∧ j + 6 ≤ L) : Nxt L xs V J z j 853 := by
  obtain ⟨F, Z, g⟩ := S
  have r1 := xv_r (xs := xs) (j := j + 1)
  have pp : Pz TXR (xI xs) V J z (fun h => cA m_X_seating [.ref 8, .int (iv (Xv xs (j + 1)))] h) (fun h => cA m_M_seating [.ref 435, .int (iv (Xv xs (j + 1)))] h) := ((p_seating F g r1).pc TXR_ok g).pz F Z
  obtain ⟨e, V1, J1, z1, V2, J2, z2, h1, h2, g2, F2, Z2, n2, c2⟩ := pp
  have h1 : cA m_X_seating [.ref 8, .int (iv (Xv xs (j + 1)))] (em V J z) = some (.int (iv e), em V1 J1 z1) := h1
  have h2 : cA m_M_seating [.ref 435, .int (iv (Xv xs (j + 1)))] (em V1 J1 z1) = some (.int (iv e), em V2 J2 z2) := h2
  have R1 := R.go h1
  have R2 := R1.go h2
  exact ⟨V2, J2, z2, by rw [q_Law_law_853, ld1 R hL hj, h1, bnI_s, ld1 R1 hL hj, h2, bnI_s, if_pos rfl, n_on], ⟨F2, Z2, g2⟩, R2, n2, c2⟩
theorem n_seatings (S : Stt xs V z) (R : Rg L xs (em V J z)) (hL : L ≤ 3072) (hj : 0 ≤ j ∧ j + 6 ≤ L) : Nxt L xs V J z j 876 := by
  obtain ⟨F, Z, g⟩ := S
  have pp : Pz TXR (xI xs) V J z (fun h => cA m_X_seatings [.ref 8] h) (fun h => cA m_M_seatings [.ref 435] h) := ((p_seatings F g).pc TXR_ok g).pz F Z
  obtain ⟨e, V1, J1, z1, V2, J2, z2, h1, h2, g2, F2, Z2, n2, c2⟩ := pp
  have h1 : cA m_X_seatings [.ref 8] (em V J z) = some (.int (iv e), em V1 J1 z1) := h1
  have h2 : cA m_M_seatings [.ref 435] (em V1 J1 z1) = some (.int (iv e), em V2 J2 z2) := h2
  have R1 := R.go h1
  have R2 := R1.go h2
  exact ⟨V2, J2, z2, by rw [q_Law_law_876, h1, bnI_s, h2, bnI_s, if_pos rfl, n_on], ⟨F2, Z2, g2⟩, R2, n2, c2⟩
theorem n_spiteNow (S : Stt xs V z) (R : Rg L xs (em V J z)) (hL : L ≤ 3072) (hj : 0 ≤ j ∧ j + 6 ≤ L) : Nxt L xs V J z j 889 := by
  obtain ⟨F, Z, g⟩ := S
  have pp : Pz TXR (xI xs) V J z (fun h => cA m_X_spiteNow [.ref 8] h) (fun h => cA m_M_spiteNow [.ref 435] h) := ((p_spiteNow F g).pc TXR_ok g).pz F Z
  obtain ⟨e, V1, J1, z1, V2, J2, z2, h1, h2, g2, F2, Z2, n2, c2⟩ := pp
  have h1 : cA m_X_spiteNow [.ref 8] (em V J z) = some (.int (iv e), em V1 J1 z1) := h1
  have h2 : cA m_M_spiteNow [.ref 435] (em V1 J1 z1) = some (.int (iv e), em V2 J2 z2) := h2
  have R1 := R.go h1
  have R2 := R1.go h2
  exact ⟨V2, J2, z2, by rw [q_Law_law_889, h1, bnI_s, h2, bnI_s, if_pos rfl, n_on], ⟨F2, Z2, g2⟩, R2, n2, c2⟩
theorem n_mend (S : Stt xs V z) (R : Rg L xs (em V J z)) (hL : L ≤ 3072) (hj : 0 ≤ j ∧ j + 6 ≤ L) : Nxt L xs V J z j 902 := by
  obtain ⟨F, Z, g⟩ := S
  have r1 := xv_r (xs := xs) (j := j + 1)
  have pp : Pz TXR (xI xs) V J z (fun h => cA m_X_mend [.ref 8, .int (iv (Xv xs (j + 1)))] h) (fun h => cA m_M_mend [.ref 435, .int (iv (Xv xs (j + 1)))] h) := ((p_mend F g r1).pc TXR_ok g).pz F Z
  obtain ⟨e, V1, J1, z1, V2, J2, z2, h1, h2, g2, F2, Z2, n2, c2⟩ := pp
  have h1 : cA m_X_mend [.ref 8, .int (iv (Xv xs (j + 1)))] (em V J z) = some (.int (iv e), em V1 J1 z1) := h1
  have h2 : cA m_M_mend [.ref 435, .int (iv (Xv xs (j + 1)))] (em V1 J1 z1) = some (.int (iv e), em V2 J2 z2) := h2
  have R1 := R.go h1
  have R2 := R1.go h2
  exact ⟨V2, J2, z2, by rw [q_Law_law_902, ld1 R hL hj, h1, bnI_s, ld1 R1 hL hj, h2, bnI_s, if_pos rfl, n_on], ⟨F2, Z2, g2⟩, R2, n2, c2⟩
theorem n_hedge (S : Stt xs V z) (R : Rg L xs (em V J z)) (hL : L ≤ 3072) (hj : 0 ≤ j ∧ j + 6 ≤ L) : Nxt L xs V J z j 925 := by
  obtain ⟨F, Z, g⟩ := S
  have r1 := xv_r (xs := xs) (j := j + 1)
  have r2 := xv_r (xs := xs) (j := j + 2)
  have pp : Pz TXR (xI xs) V J z (fun h => cA m_X_hedge [.ref 8, .int (iv (Xv xs (j + 1))), .int (iv (Xv xs (j + 2)))] h) (fun h => cA m_M_hedge [.ref 435, .int (iv (Xv xs (j + 1))), .int (iv (Xv xs (j + 2)))] h) := (p_hedge F TXR_ok g r1 r2).pz F Z
  obtain ⟨e, V1, J1, z1, V2, J2, z2, h1, h2, g2, F2, Z2, n2, c2⟩ := pp
  have h1 : cA m_X_hedge [.ref 8, .int (iv (Xv xs (j + 1))), .int (iv (Xv xs (j + 2)))] (em V J z) = some (.int (iv e), em V1 J1 z1) := h1
  have h2 : cA m_M_hedge [.ref 435, .int (iv (Xv xs (j + 1))), .int (iv (Xv xs (j + 2)))] (em V1 J1 z1) = some (.int (iv e), em V2 J2 z2) := h2
  have R1 := R.go h1
  have R2 := R1.go h2
  exact ⟨V2, J2, z2, by rw [q_Law_law_925, ld1 R hL hj, ld2 R hL hj, h1, bnI_s, ld1 R1 hL hj, ld2 R1 hL hj, h2, bnI_s, if_pos rfl, n_on], ⟨F2, Z2, g2⟩, R2, n2, c2⟩
theorem n_flight (S : Stt xs V z) (R : Rg L xs (em V J z)) (hL : L ≤ 3072) (hj : 0 ≤ j ∧ j + 6 ≤ L) : Nxt L xs V J z j 958 := by
  obtain ⟨F, Z, g⟩ := S
  have r1 := xv_r (xs := xs) (j := j + 1)
  have r2 := xv_r (xs := xs) (j := j + 2)
  have r3 := xv_r (xs := xs) (j := j + 3)
  have pp : Pz TXR (xI xs) V J z (fun h => cA m_X_flight [.ref 8, .int (iv (Xv xs (j + 1))), .int (iv (Xv xs (j + 2))), .int (iv (Xv xs (j + 3)))] h) (fun h => cA m_M_flight [.ref 435, .int (iv (Xv xs (j + 1))), .int (iv (Xv xs (j + 2))), .int (iv (Xv xs (j + 3)))] h) := ((p_flight F g.1.2.2.2.1 r1 r2 r3).pc TXR_ok g).pz F Z
  obtain ⟨e, V1, J1, z1, V2, J2, z2, h1, h2, g2, F2, Z2, n2, c2⟩ := pp
  have h1 : cA m_X_flight [.ref 8, .int (iv (Xv xs (j + 1))), .int (iv (Xv xs (j + 2))), .int (iv (Xv xs (j + 3)))] (em V J z) = some (.int (iv e), em V1 J1 z1) := h1
  have h2 : cA m_M_flight [.ref 435, .int (iv (Xv xs (j + 1))), .int (iv (Xv xs (j + 2))), .int (iv (Xv xs (j + 3)))] (em V1 J1 z1) = some (.int (iv e), em V2 J2 z2) := h2
  have R1 := R.go h1
  have R2 := R1.go h2
  exact ⟨V2, J2, z2, by rw [q_Law_law_958, ld1 R hL hj, ld2 R hL hj, ld3 R hL hj, h1, bnI_s, ld1 R1 hL hj, ld2 R1 hL hj, ld3 R1 hL hj, h2, bnI_s, if_pos rfl, n_on], ⟨F2, Z2, g2⟩, R2, n2, c2⟩
theorem n_comes (S : Stt xs V z) (R : Rg L xs (em V J z)) (hL : L ≤ 3072) (hj : 0 ≤ j ∧ j + 6 ≤ L) : Nxt L xs V J z j 1001 := by
  obtain ⟨F, Z, g⟩ := S
  have r1 := xv_r (xs := xs) (j := j + 1)
  have r2 := xv_r (xs := xs) (j := j + 2)
  have pp : Pz TXR (xI xs) V J z (fun h => cA m_X_comes [.ref 8, .int (iv (Xv xs (j + 1))), .int (iv (Xv xs (j + 2)))] h) (fun h => cA m_M_comes [.ref 435, .int (iv (Xv xs (j + 1))), .int (iv (Xv xs (j + 2)))] h) := ((p_comes F g.1.2.2.2.1 r1 r2).pc TXR_ok g).pz F Z
  obtain ⟨e, V1, J1, z1, V2, J2, z2, h1, h2, g2, F2, Z2, n2, c2⟩ := pp
  have h1 : cA m_X_comes [.ref 8, .int (iv (Xv xs (j + 1))), .int (iv (Xv xs (j + 2)))] (em V J z) = some (.int (iv e), em V1 J1 z1) := h1
  have h2 : cA m_M_comes [.ref 435, .int (iv (Xv xs (j + 1))), .int (iv (Xv xs (j + 2)))] (em V1 J1 z1) = some (.int (iv e), em V2 J2 z2) := h2
  have R1 := R.go h1
  have R2 := R1.go h2
  exact ⟨V2, J2, z2, by rw [q_Law_law_1001, ld1 R hL hj, ld2 R hL hj, h1, bnI_s, ld1 R1 hL hj, ld2 R1 hL hj, h2, bnI_s, if_pos rfl, n_on], ⟨F2, Z2, g2⟩, R2, n2, c2⟩
theorem n_guess (S : Stt xs V z) (R : Rg L xs (em V J z)) (hL : L ≤ 3072) (hj : 0 ≤ j ∧ j + 6 ≤ L) : Nxt L xs V J z j 1034 := by
  obtain ⟨F, Z, g⟩ := S
  have r1 := xv_r (xs := xs) (j := j + 1)
  have r2 := xv_r (xs := xs) (j := j + 2)
  have r3 := xv_r (xs := xs) (j := j + 3)
  have pp : Pz TXR (xI xs) V J z (fun h => cA m_X_guess [.ref 8, .int (iv (Xv xs (j + 1))), .int (iv (Xv xs (j + 2))), .int (iv (Xv xs (j + 3)))] h) (fun h => cA m_M_guess [.ref 435, .int (iv (Xv xs (j + 1))), .int (iv (Xv xs (j + 2))), .int (iv (Xv xs (j + 3)))] h) := (p_guess F TXR_ok g r1 r2 r3).pz F Z
  obtain ⟨e, V1, J1, z1, V2, J2, z2, h1, h2, g2, F2, Z2, n2, c2⟩ := pp
  have h1 : cA m_X_guess [.ref 8, .int (iv (Xv xs (j + 1))), .int (iv (Xv xs (j + 2))), .int (iv (Xv xs (j + 3)))] (em V J z) = some (.int (iv e), em V1 J1 z1) := h1
  have h2 : cA m_M_guess [.ref 435, .int (iv (Xv xs (j + 1))), .int (iv (Xv xs (j + 2))), .int (iv (Xv xs (j + 3)))] (em V1 J1 z1) = some (.int (iv e), em V2 J2 z2) := h2
  have R1 := R.go h1
  have R2 := R1.go h2
  exact ⟨V2, J2, z2, by rw [q_Law_law_1034, ld1 R hL hj, ld2 R hL hj, ld3 R hL hj, h1, bnI_s, ld1 R1 hL hj, ld2 R1 hL hj, ld3 R1 hL hj, h2, bnI_s, if_pos rfl, n_on], ⟨F2, Z2, g2⟩, R2, n2, c2⟩
theorem n_answer (S : Stt xs V z) (R : Rg L xs (em V J z)) (hL : L ≤ 3072) (hj : 0 ≤ j ∧ j + 6 ≤ L) : Nxt L xs V J z j 1077 := by
  obtain ⟨F, Z, g⟩ := S
  have r1 := xv_r (xs := xs) (j := j + 1)
  have r2 := xv_r (xs := xs) (j := j + 2)
  have pp : Pz TXR (xI xs) V J z (fun h => cA m_X_answer [.ref 8, .int (iv (Xv xs (j + 1))), .int (iv (Xv xs (j + 2)))] h) (fun h => cA m_M_answer [.ref 435, .int (iv (Xv xs (j + 1))), .int (iv (Xv xs (j + 2)))] h) := ((p_answer F g.2.2.2.2.2.1 r1 r2).pc TXR_ok g).pz F Z
  obtain ⟨e, V1, J1, z1, V2, J2, z2, h1, h2, g2, F2, Z2, n2, c2⟩ := pp
  have h1 : cA m_X_answer [.ref 8, .int (iv (Xv xs (j + 1))), .int (iv (Xv xs (j + 2)))] (em V J z) = some (.int (iv e), em V1 J1 z1) := h1
  have h2 : cA m_M_answer [.ref 435, .int (iv (Xv xs (j + 1))), .int (iv (Xv xs (j + 2)))] (em V1 J1 z1) = some (.int (iv e), em V2 J2 z2) := h2
  have R1 := R.go h1
  have R2 := R1.go h2
  exact ⟨V2, J2, z2, by rw [q_Law_law_1077, ld1 R hL hj, ld2 R hL hj, h1, bnI_s, ld1 R1 hL hj, ld2 R1 hL hj, h2, bnI_s, if_pos rfl, n_on], ⟨F2, Z2, g2⟩, R2, n2, c2⟩
theorem n_fits (S : Stt xs V z) (R : Rg L xs (em V J z)) (hL : L ≤ 3072) (hj : 0 ≤ j ∧ j + 6 ≤ L) : Nxt L xs V J z j 1110 := by
  obtain ⟨F, Z, g⟩ := S
  have pp : Pz TXR (xI xs) V J z (fun h => cA m_X_fits [.ref 8] h) (fun h => cA m_M_fits [.ref 435] h) := ((p_fits F g.2.2.2.2.2.1 g.1.2.2.2.2.2.1).pc TXR_ok g).pz F Z
  obtain ⟨e, V1, J1, z1, V2, J2, z2, h1, h2, g2, F2, Z2, n2, c2⟩ := pp
  have h1 : cA m_X_fits [.ref 8] (em V J z) = some (.int (iv e), em V1 J1 z1) := h1
  have h2 : cA m_M_fits [.ref 435] (em V1 J1 z1) = some (.int (iv e), em V2 J2 z2) := h2
  have R1 := R.go h1
  have R2 := R1.go h2
  exact ⟨V2, J2, z2, by rw [q_Law_law_1110, h1, bnI_s, h2, bnI_s, if_pos rfl, n_on], ⟨F2, Z2, g2⟩, R2, n2, c2⟩
theorem n_fit (S : Stt xs V z) (R : Rg L xs (em V J z)) (hL : L ≤ 3072) (hj : 0 ≤ j ∧ j + 6 ≤ L) : Nxt L xs V J z j 1123 := by
  obtain ⟨F, Z, g⟩ := S
  have r1 := xv_r (xs := xs) (j := j + 1)
  have pp : Pz TXR (xI xs) V J z (fun h => cA m_X_fit [.ref 8, .int (iv (Xv xs (j + 1)))] h) (fun h => cA m_M_fit [.ref 435, .int (iv (Xv xs (j + 1)))] h) := ((p_fit F g.2.2.2.2.2.1 g.1.2.2.2.2.2.1 r1).pc TXR_ok g).pz F Z
  obtain ⟨e, V1, J1, z1, V2, J2, z2, h1, h2, g2, F2, Z2, n2, c2⟩ := pp
  have h1 : cA m_X_fit [.ref 8, .int (iv (Xv xs (j + 1)))] (em V J z) = some (.int (iv e), em V1 J1 z1) := h1
  have h2 : cA m_M_fit [.ref 435, .int (iv (Xv xs (j + 1)))] (em V1 J1 z1) = some (.int (iv e), em V2 J2 z2) := h2
  have R1 := R.go h1
  have R2 := R1.go h2
  exact ⟨V2, J2, z2, by rw [q_Law_law_1123, ld1 R hL hj, h1, bnI_s, ld1 R1 hL hj, h2, bnI_s, if_pos rfl, n_on], ⟨F2, Z2, g2⟩, R2, n2, c2⟩
theorem n_ask (S : Stt xs V z) (R : Rg L xs (em V J z)) (hL : L ≤ 3072) (hj : 0 ≤ j ∧ j + 6 ≤ L) : Nxt L xs V J z j 1146 := by
  obtain ⟨F, Z, g⟩ := S
  have pp : Pz TXR (xI xs) V J z (fun h => cA m_X_ask [.ref 8] h) (fun h => cA m_M_ask [.ref 435] h) := ((p_ask F g.2.2.2.2.2.1 g.1.2.2.2.2.2.1).pc TXR_ok g).pz F Z
  obtain ⟨e, V1, J1, z1, V2, J2, z2, h1, h2, g2, F2, Z2, n2, c2⟩ := pp
  have h1 : cA m_X_ask [.ref 8] (em V J z) = some (.int (iv e), em V1 J1 z1) := h1
  have h2 : cA m_M_ask [.ref 435] (em V1 J1 z1) = some (.int (iv e), em V2 J2 z2) := h2
  have R1 := R.go h1
  have R2 := R1.go h2
  exact ⟨V2, J2, z2, by rw [q_Law_law_1146, h1, bnI_s, h2, bnI_s, if_pos rfl, n_on], ⟨F2, Z2, g2⟩, R2, n2, c2⟩
theorem n_gain (S : Stt xs V z) (R : Rg L xs (em V J z)) (hL : L ≤ 3072) (hj : 0 ≤ j ∧ j + 6 ≤ L) : Nxt L xs V J z j 1159 := by
  obtain ⟨F, Z, g⟩ := S
  have r1 := xv_r (xs := xs) (j := j + 1)
  have r2 := xv_r (xs := xs) (j := j + 2)
  have r3 := xv_r (xs := xs) (j := j + 3)
  have r4 := xv_r (xs := xs) (j := j + 4)
  have pp : Pz TXR (xI xs) V J z (fun h => cA m_X_gain [.ref 8, .int (iv (Xv xs (j + 1))), .int (iv (Xv xs (j + 2))), .int (iv (Xv xs (j + 3))), .int (iv (Xv xs (j + 4)))] h) (fun h => cA m_M_gain [.ref 435, .int (iv (Xv xs (j + 1))), .int (iv (Xv xs (j + 2))), .int (iv (Xv xs (j + 3))), .int (iv (Xv xs (j + 4)))] h) := (p_gain F TXR_ok g r1 r2 r3 r4).pz F Z
  obtain ⟨e, V1, J1, z1, V2, J2, z2, h1, h2, g2, F2, Z2, n2, c2⟩ := pp
  have h1 : cA m_X_gain [.ref 8, .int (iv (Xv xs (j + 1))), .int (iv (Xv xs (j + 2))), .int (iv (Xv xs (j + 3))), .int (iv (Xv xs (j + 4)))] (em V J z) = some (.int (iv e), em V1 J1 z1) := h1
  have h2 : cA m_M_gain [.ref 435, .int (iv (Xv xs (j + 1))), .int (iv (Xv xs (j + 2))), .int (iv (Xv xs (j + 3))), .int (iv (Xv xs (j + 4)))] (em V1 J1 z1) = some (.int (iv e), em V2 J2 z2) := h2
  have R1 := R.go h1
  have R2 := R1.go h2
  exact ⟨V2, J2, z2, by rw [q_Law_law_1159, ld1 R hL hj, ld2 R hL hj, ld3 R hL hj, ld4 R hL hj, h1, bnI_s, ld1 R1 hL hj, ld2 R1 hL hj, ld3 R1 hL hj, ld4 R1 hL hj, h2, bnI_s, if_pos rfl, n_on], ⟨F2, Z2, g2⟩, R2, n2, c2⟩
theorem n_rests (S : Stt xs V z) (R : Rg L xs (em V J z)) (hL : L ≤ 3072) (hj : 0 ≤ j ∧ j + 6 ≤ L) : Nxt L xs V J z j 1212 := by
  obtain ⟨F, Z, g⟩ := S
  have pp : Pz TXR (xI xs) V J z (fun h => cA m_X_rests [.ref 8] h) (fun h => cA m_M_rests [.ref 435] h) := ((p_rests F g.1.2.2.2.2.1).pc TXR_ok g).pz F Z
  obtain ⟨e, V1, J1, z1, V2, J2, z2, h1, h2, g2, F2, Z2, n2, c2⟩ := pp
  have h1 : cA m_X_rests [.ref 8] (em V J z) = some (.int (iv e), em V1 J1 z1) := h1
  have h2 : cA m_M_rests [.ref 435] (em V1 J1 z1) = some (.int (iv e), em V2 J2 z2) := h2
  have R1 := R.go h1
  have R2 := R1.go h2
  exact ⟨V2, J2, z2, by rw [q_Law_law_1212, h1, bnI_s, h2, bnI_s, if_pos rfl, n_on], ⟨F2, Z2, g2⟩, R2, n2, c2⟩
theorem n_saying (S : Stt xs V z) (R : Rg L xs (em V J z)) (hL : L ≤ 3072) (hj : 0 ≤ j ∧ j + 6 ≤ L) : Nxt L xs V J z j 1290 := by
  obtain ⟨F, Z, g⟩ := S
  have r1 := xv_r (xs := xs) (j := j + 1)
  have r2 := xv_r (xs := xs) (j := j + 2)
  have pp : Pz TXR (xI xs) V J z (fun h => cA m_X_saying [.ref 8, .int (iv (Xv xs (j + 1))), .int (iv (Xv xs (j + 2)))] h) (fun h => cA m_M_saying [.ref 435, .int (iv (Xv xs (j + 1))), .int (iv (Xv xs (j + 2)))] h) := (p_saying F TXR_ok g r1 r2).pz F Z
  obtain ⟨e, V1, J1, z1, V2, J2, z2, h1, h2, g2, F2, Z2, n2, c2⟩ := pp
  have h1 : cA m_X_saying [.ref 8, .int (iv (Xv xs (j + 1))), .int (iv (Xv xs (j + 2)))] (em V J z) = some (.int (iv e), em V1 J1 z1) := h1
  have h2 : cA m_M_saying [.ref 435, .int (iv (Xv xs (j + 1))), .int (iv (Xv xs (j + 2)))] (em V1 J1 z1) = some (.int (iv e), em V2 J2 z2) := h2
  have R1 := R.go h1
  have R2 := R1.go h2
  exact ⟨V2, J2, z2, by rw [q_Law_law_1290, ld1 R hL hj, ld2 R hL hj, h1, bnI_s, ld1 R1 hL hj, ld2 R1 hL hj, h2, bnI_s, if_pos rfl, n_on], ⟨F2, Z2, g2⟩, R2, n2, c2⟩
theorem n_game (S : Stt xs V z) (R : Rg L xs (em V J z)) (hL : L ≤ 3072) (hj : 0 ≤ j ∧ j + 6 ≤ L) : Nxt L xs V J z j 1442 := by
  obtain ⟨F, Z, g⟩ := S
  have r1 := xv_r (xs := xs) (j := j + 1)
  have r2 := xv_r (xs := xs) (j := j + 2)
  have pp : Pz TXR (xI xs) V J z (fun h => cA m_X_game [.ref 8, .int (iv (Xv xs (j + 1))), .int (iv (Xv xs (j + 2)))] h) (fun h => cA m_M_game [.ref 435, .int (iv (Xv xs (j + 1))), .int (iv (Xv xs (j + 2)))] h) := ((p_game F (Los_of g.2.2.2.2.2.2.2) r1 r2).pc TXR_ok g).pz F Z
  obtain ⟨e, V1, J1, z1, V2, J2, z2, h1, h2, g2, F2, Z2, n2, c2⟩ := pp
  have h1 : cA m_X_game [.ref 8, .int (iv (Xv xs (j + 1))), .int (iv (Xv xs (j + 2)))] (em V J z) = some (.int (iv e), em V1 J1 z1) := h1
  have h2 : cA m_M_game [.ref 435, .int (iv (Xv xs (j + 1))), .int (iv (Xv xs (j + 2)))] (em V1 J1 z1) = some (.int (iv e), em V2 J2 z2) := h2
  have R1 := R.go h1
  have R2 := R1.go h2
  exact ⟨V2, J2, z2, by rw [q_Law_law_1442, ld1 R hL hj, ld2 R hL hj, h1, bnI_s, ld1 R1 hL hj, ld2 R1 hL hj, h2, bnI_s, if_pos rfl, n_on], ⟨F2, Z2, g2⟩, R2, n2, c2⟩
theorem n_told (S : Stt xs V z) (R : Rg L xs (em V J z)) (hL : L ≤ 3072) (hj : 0 ≤ j ∧ j + 6 ≤ L) : Nxt L xs V J z j 1524 := by
  obtain ⟨F, Z, g⟩ := S
  have r1 := xv_r (xs := xs) (j := j + 1)
  have r2 := xv_r (xs := xs) (j := j + 2)
  have pp : Pz TXR (xI xs) V J z (fun h => cA m_X_told [.ref 8, .int (iv (Xv xs (j + 1))), .int (iv (Xv xs (j + 2)))] h) (fun h => cA m_M_told [.ref 435, .int (iv (Xv xs (j + 1))), .int (iv (Xv xs (j + 2)))] h) := (p_told F TXR_ok g r1 r2).pz F Z
  obtain ⟨e, V1, J1, z1, V2, J2, z2, h1, h2, g2, F2, Z2, n2, c2⟩ := pp
  have h1 : cA m_X_told [.ref 8, .int (iv (Xv xs (j + 1))), .int (iv (Xv xs (j + 2)))] (em V J z) = some (.int (iv e), em V1 J1 z1) := h1
  have h2 : cA m_M_told [.ref 435, .int (iv (Xv xs (j + 1))), .int (iv (Xv xs (j + 2)))] (em V1 J1 z1) = some (.int (iv e), em V2 J2 z2) := h2
  have R1 := R.go h1
  have R2 := R1.go h2
  exact ⟨V2, J2, z2, by rw [q_Law_law_1524, ld1 R hL hj, ld2 R hL hj, h1, bnI_s, ld1 R1 hL hj, ld2 R1 hL hj, h2, bnI_s, if_pos rfl, n_on], ⟨F2, Z2, g2⟩, R2, n2, c2⟩
theorem n_whose (S : Stt xs V z) (R : Rg L xs (em V J z)) (hL : L ≤ 3072) (hj : 0 ≤ j ∧ j + 6 ≤ L) : Nxt L xs V J z j 1557 := by
  obtain ⟨F, Z, g⟩ := S
  have pp : Pz TXR (xI xs) V J z (fun h => cA m_X_whose [.ref 8] h) (fun h => cA m_M_whose [.ref 435] h) := ((p_whose F g).pc TXR_ok g).pz F Z
  obtain ⟨e, V1, J1, z1, V2, J2, z2, h1, h2, g2, F2, Z2, n2, c2⟩ := pp
  have h1 : cA m_X_whose [.ref 8] (em V J z) = some (.int (iv e), em V1 J1 z1) := h1
  have h2 : cA m_M_whose [.ref 435] (em V1 J1 z1) = some (.int (iv e), em V2 J2 z2) := h2
  have R1 := R.go h1
  have R2 := R1.go h2
  exact ⟨V2, J2, z2, by rw [q_Law_law_1557, h1, bnI_s, h2, bnI_s, if_pos rfl, n_on], ⟨F2, Z2, g2⟩, R2, n2, c2⟩
theorem n_fullest (S : Stt xs V z) (R : Rg L xs (em V J z)) (hL : L ≤ 3072) (hj : 0 ≤ j ∧ j + 6 ≤ L) : Nxt L xs V J z j 1570 := by
  obtain ⟨F, Z, g⟩ := S
  have pp : Pz TXR (xI xs) V J z (fun h => cA m_X_fullest [.ref 8] h) (fun h => cA m_M_fullest [.ref 435] h) := ((p_fullest F g).pc TXR_ok g).pz F Z
  obtain ⟨e, V1, J1, z1, V2, J2, z2, h1, h2, g2, F2, Z2, n2, c2⟩ := pp
  have h1 : cA m_X_fullest [.ref 8] (em V J z) = some (.int (iv e), em V1 J1 z1) := h1
  have h2 : cA m_M_fullest [.ref 435] (em V1 J1 z1) = some (.int (iv e), em V2 J2 z2) := h2
  have R1 := R.go h1
  have R2 := R1.go h2
  exact ⟨V2, J2, z2, by rw [q_Law_law_1570, h1, bnI_s, h2, bnI_s, if_pos rfl, n_on], ⟨F2, Z2, g2⟩, R2, n2, c2⟩
theorem n_calm (S : Stt xs V z) (R : Rg L xs (em V J z)) (hL : L ≤ 3072) (hj : 0 ≤ j ∧ j + 6 ≤ L) : Nxt L xs V J z j 1583 := by
  obtain ⟨F, Z, g⟩ := S
  have pp : Pz TXR (xI xs) V J z (fun h => cA m_X_calm [.ref 8] h) (fun h => cA m_M_calm [.ref 435] h) := ((p_calm F g).pc TXR_ok g).pz F Z
  obtain ⟨e, V1, J1, z1, V2, J2, z2, h1, h2, g2, F2, Z2, n2, c2⟩ := pp
  have h1 : cA m_X_calm [.ref 8] (em V J z) = some (.int (iv e), em V1 J1 z1) := h1
  have h2 : cA m_M_calm [.ref 435] (em V1 J1 z1) = some (.int (iv e), em V2 J2 z2) := h2
  have R1 := R.go h1
  have R2 := R1.go h2
  exact ⟨V2, J2, z2, by rw [q_Law_law_1583, h1, bnI_s, h2, bnI_s, if_pos rfl, n_on], ⟨F2, Z2, g2⟩, R2, n2, c2⟩
theorem n_ledger (S : Stt xs V z) (R : Rg L xs (em V J z)) (hL : L ≤ 3072) (hj : 0 ≤ j ∧ j + 6 ≤ L) : Nxt L xs V J z j 1596 := by
  obtain ⟨F, Z, g⟩ := S
  have r1 := xv_r (xs := xs) (j := j + 1)
  have pp : Pz TXR (xI xs) V J z (fun h => cA m_X_ledger [.ref 8, .int (iv (Xv xs (j + 1)))] h) (fun h => cA m_M_ledger [.ref 435, .int (iv (Xv xs (j + 1)))] h) := ((p_ledger F g r1).pc TXR_ok g).pz F Z
  obtain ⟨e, V1, J1, z1, V2, J2, z2, h1, h2, g2, F2, Z2, n2, c2⟩ := pp
  have h1 : cA m_X_ledger [.ref 8, .int (iv (Xv xs (j + 1)))] (em V J z) = some (.int (iv e), em V1 J1 z1) := h1
  have h2 : cA m_M_ledger [.ref 435, .int (iv (Xv xs (j + 1)))] (em V1 J1 z1) = some (.int (iv e), em V2 J2 z2) := h2
  have R1 := R.go h1
  have R2 := R1.go h2
  exact ⟨V2, J2, z2, by rw [q_Law_law_1596, ld1 R hL hj, h1, bnI_s, ld1 R1 hL hj, h2, bnI_s, if_pos rfl, n_on], ⟨F2, Z2, g2⟩, R2, n2, c2⟩
theorem n_image (S : Stt xs V z) (R : Rg L xs (em V J z)) (hL : L ≤ 3072) (hj : 0 ≤ j ∧ j + 6 ≤ L) : Nxt L xs V J z j 1619 := by
  obtain ⟨F, Z, g⟩ := S
  have pp : Pz TXR (xI xs) V J z (fun h => cA m_X_image [.ref 8] h) (fun h => cA m_M_image [.ref 435] h) := p_image F Z TXR_ok TXR_z g
  obtain ⟨e, V1, J1, z1, V2, J2, z2, h1, h2, g2, F2, Z2, n2, c2⟩ := pp
  have h1 : cA m_X_image [.ref 8] (em V J z) = some (.int (iv e), em V1 J1 z1) := h1
  have h2 : cA m_M_image [.ref 435] (em V1 J1 z1) = some (.int (iv e), em V2 J2 z2) := h2
  have R1 := R.go h1
  have R2 := R1.go h2
  exact ⟨V2, J2, z2, by rw [q_Law_law_1619, h1, bnI_s, h2, bnI_s, if_pos rfl, n_on], ⟨F2, Z2, g2⟩, R2, n2, c2⟩
theorem n_back (S : Stt xs V z) (R : Rg L xs (em V J z)) (hL : L ≤ 3072) (hj : 0 ≤ j ∧ j + 6 ≤ L) : Nxt L xs V J z j 1632 := by
  obtain ⟨F, Z, g⟩ := S
  have pp : Pz TXR (xI xs) V J z (fun h => cA m_X_back [.ref 8] h) (fun h => cA m_M_back [.ref 435] h) := p_back F Z TXR_ok TXR_z g
  obtain ⟨e, V1, J1, z1, V2, J2, z2, h1, h2, g2, F2, Z2, n2, c2⟩ := pp
  have h1 : cA m_X_back [.ref 8] (em V J z) = some (.int (iv e), em V1 J1 z1) := h1
  have h2 : cA m_M_back [.ref 435] (em V1 J1 z1) = some (.int (iv e), em V2 J2 z2) := h2
  have R1 := R.go h1
  have R2 := R1.go h2
  exact ⟨V2, J2, z2, by rw [q_Law_law_1632, h1, bnI_s, h2, bnI_s, if_pos rfl, n_on], ⟨F2, Z2, g2⟩, R2, n2, c2⟩
theorem n_about (S : Stt xs V z) (R : Rg L xs (em V J z)) (hL : L ≤ 3072) (hj : 0 ≤ j ∧ j + 6 ≤ L) : Nxt L xs V J z j 1645 := by
  obtain ⟨F, Z, g⟩ := S
  have r1 := xv_r (xs := xs) (j := j + 1)
  have pp : Pz TXR (xI xs) V J z (fun h => cA m_X_about [.ref 8, .int (iv (Xv xs (j + 1)))] h) (fun h => cA m_M_about [.ref 435, .int (iv (Xv xs (j + 1)))] h) := ((p_about F g r1).pc TXR_ok g).pz F Z
  obtain ⟨e, V1, J1, z1, V2, J2, z2, h1, h2, g2, F2, Z2, n2, c2⟩ := pp
  have h1 : cA m_X_about [.ref 8, .int (iv (Xv xs (j + 1)))] (em V J z) = some (.int (iv e), em V1 J1 z1) := h1
  have h2 : cA m_M_about [.ref 435, .int (iv (Xv xs (j + 1)))] (em V1 J1 z1) = some (.int (iv e), em V2 J2 z2) := h2
  have R1 := R.go h1
  have R2 := R1.go h2
  exact ⟨V2, J2, z2, by rw [q_Law_law_1645, ld1 R hL hj, h1, bnI_s, ld1 R1 hL hj, h2, bnI_s, if_pos rfl, n_on], ⟨F2, Z2, g2⟩, R2, n2, c2⟩
theorem n_round (S : Stt xs V z) (R : Rg L xs (em V J z)) (hL : L ≤ 3072) (hj : 0 ≤ j ∧ j + 6 ≤ L) : Nxt L xs V J z j 814 := by
  obtain ⟨F, Z, g⟩ := S
  have r1 := xv_r (xs := xs) (j := j + 1)
  have b1 : iv (Xv xs (j + 1)) = 0 ∨ ¬ iv (Xv xs (j + 1)) = 0 := Classical.em _
  rcases b1 with b1 | b1
  · have pp : Pz TXR (xI xs) V J z (fun h => cA m_X_round [.ref 8, .int (iv 0)] h) (fun h => cA m_M_round [.ref 435, .int (iv 0)] h) := ((p_round F g (Or.inl rfl)).pc TXR_ok g).pz F Z
    obtain ⟨e, V1, J1, z1, V2, J2, z2, h1, h2, g2, F2, Z2, n2, c2⟩ := pp
    have h1 : cA m_X_round [.ref 8, .int 0] (em V J z) = some (.int (iv e), em V1 J1 z1) := h1
    have h2 : cA m_M_round [.ref 435, .int 0] (em V1 J1 z1) = some (.int (iv e), em V2 J2 z2) := h2
    have R1 := R.go h1
    have R2 := R1.go h2
    exact ⟨V2, J2, z2, by rw [q_Law_law_814, ld1 R hL hj, if_pos b1, q_Law_law_828, h1, bnI_s, ld1 R1 hL hj, if_pos b1, h2, bnI_s, if_pos rfl, n_on], ⟨F2, Z2, g2⟩, R2, n2, c2⟩
  · have pp : Pz TXR (xI xs) V J z (fun h => cA m_X_round [.ref 8, .int (iv 1)] h) (fun h => cA m_M_round [.ref 435, .int (iv 1)] h) := ((p_round F g (Or.inr rfl)).pc TXR_ok g).pz F Z
    obtain ⟨e, V1, J1, z1, V2, J2, z2, h1, h2, g2, F2, Z2, n2, c2⟩ := pp
    have h1 : cA m_X_round [.ref 8, .int 1] (em V J z) = some (.int (iv e), em V1 J1 z1) := h1
    have h2 : cA m_M_round [.ref 435, .int 1] (em V1 J1 z1) = some (.int (iv e), em V2 J2 z2) := h2
    have R1 := R.go h1
    have R2 := R1.go h2
    exact ⟨V2, J2, z2, by rw [q_Law_law_814, ld1 R hL hj, if_neg b1, q_Law_law_828, h1, bnI_s, ld1 R1 hL hj, if_neg b1, h2, bnI_s, if_pos rfl, n_on], ⟨F2, Z2, g2⟩, R2, n2, c2⟩
theorem n_mixed (S : Stt xs V z) (R : Rg L xs (em V J z)) (hL : L ≤ 3072) (hj : 0 ≤ j ∧ j + 6 ≤ L) : Nxt L xs V J z j 1225 := by
  obtain ⟨F, Z, g⟩ := S
  have r1 := xv_r (xs := xs) (j := j + 1)
  have r2 := xv_r (xs := xs) (j := j + 2)
  have b1 : iv (Xv xs (j + 1)) = 0 ∨ ¬ iv (Xv xs (j + 1)) = 0 := Classical.em _
  have b2 : iv (Xv xs (j + 2)) = 0 ∨ ¬ iv (Xv xs (j + 2)) = 0 := Classical.em _
  rcases b1 with b1 | b1 <;> rcases b2 with b2 | b2
  · have pp : Pz TXR (xI xs) V J z (fun h => cA m_X_mixed [.ref 8, .int (iv 0), .int (iv 0)] h) (fun h => cA m_M_mixed [.ref 435, .int (iv 0), .int (iv 0)] h) := ((p_mixed F g.1.2.2.2.2.1 (Or.inl rfl) (Or.inl rfl)).pc TXR_ok g).pz F Z
    obtain ⟨e, V1, J1, z1, V2, J2, z2, h1, h2, g2, F2, Z2, n2, c2⟩ := pp
    have h1 : cA m_X_mixed [.ref 8, .int 0, .int 0] (em V J z) = some (.int (iv e), em V1 J1 z1) := h1
    have h2 : cA m_M_mixed [.ref 435, .int 0, .int 0] (em V1 J1 z1) = some (.int (iv e), em V2 J2 z2) := h2
    have R1 := R.go h1
    have R2 := R1.go h2
    exact ⟨V2, J2, z2, by rw [q_Law_law_1225, ld1 R hL hj, if_pos b1, ld2 R hL hj, if_pos b2, q_Law_law_1252, h1, bnI_s, ld1 R1 hL hj, if_pos b1, q_Law_law_1269, ld2 R1 hL hj, if_pos b2, h2, bnI_s, if_pos rfl, n_on], ⟨F2, Z2, g2⟩, R2, n2, c2⟩
  · have pp : Pz TXR (xI xs) V J z (fun h => cA m_X_mixed [.ref 8, .int (iv 0), .int (iv 1)] h) (fun h => cA m_M_mixed [.ref 435, .int (iv 0), .int (iv 1)] h) := ((p_mixed F g.1.2.2.2.2.1 (Or.inl rfl) (Or.inr rfl)).pc TXR_ok g).pz F Z
    obtain ⟨e, V1, J1, z1, V2, J2, z2, h1, h2, g2, F2, Z2, n2, c2⟩ := pp
    have h1 : cA m_X_mixed [.ref 8, .int 0, .int 1] (em V J z) = some (.int (iv e), em V1 J1 z1) := h1
    have h2 : cA m_M_mixed [.ref 435, .int 0, .int 1] (em V1 J1 z1) = some (.int (iv e), em V2 J2 z2) := h2
    have R1 := R.go h1
    have R2 := R1.go h2
    exact ⟨V2, J2, z2, by rw [q_Law_law_1225, ld1 R hL hj, if_pos b1, ld2 R hL hj, if_neg b2, q_Law_law_1252, h1, bnI_s, ld1 R1 hL hj, if_pos b1, q_Law_law_1269, ld2 R1 hL hj, if_neg b2, h2, bnI_s, if_pos rfl, n_on], ⟨F2, Z2, g2⟩, R2, n2, c2⟩
  · have pp : Pz TXR (xI xs) V J z (fun h => cA m_X_mixed [.ref 8, .int (iv 1), .int (iv 0)] h) (fun h => cA m_M_mixed [.ref 435, .int (iv 1), .int (iv 0)] h) := ((p_mixed F g.1.2.2.2.2.1 (Or.inr rfl) (Or.inl rfl)).pc TXR_ok g).pz F Z
    obtain ⟨e, V1, J1, z1, V2, J2, z2, h1, h2, g2, F2, Z2, n2, c2⟩ := pp
    have h1 : cA m_X_mixed [.ref 8, .int 1, .int 0] (em V J z) = some (.int (iv e), em V1 J1 z1) := h1
    have h2 : cA m_M_mixed [.ref 435, .int 1, .int 0] (em V1 J1 z1) = some (.int (iv e), em V2 J2 z2) := h2
    have R1 := R.go h1
    have R2 := R1.go h2
    exact ⟨V2, J2, z2, by rw [q_Law_law_1225, ld1 R hL hj, if_neg b1, ld2 R hL hj, if_pos b2, q_Law_law_1252, h1, bnI_s, ld1 R1 hL hj, if_neg b1, q_Law_law_1269, ld2 R1 hL hj, if_pos b2, h2, bnI_s, if_pos rfl, n_on], ⟨F2, Z2, g2⟩, R2, n2, c2⟩
  · have pp : Pz TXR (xI xs) V J z (fun h => cA m_X_mixed [.ref 8, .int (iv 1), .int (iv 1)] h) (fun h => cA m_M_mixed [.ref 435, .int (iv 1), .int (iv 1)] h) := ((p_mixed F g.1.2.2.2.2.1 (Or.inr rfl) (Or.inr rfl)).pc TXR_ok g).pz F Z
    obtain ⟨e, V1, J1, z1, V2, J2, z2, h1, h2, g2, F2, Z2, n2, c2⟩ := pp
    have h1 : cA m_X_mixed [.ref 8, .int 1, .int 1] (em V J z) = some (.int (iv e), em V1 J1 z1) := h1
    have h2 : cA m_M_mixed [.ref 435, .int 1, .int 1] (em V1 J1 z1) = some (.int (iv e), em V2 J2 z2) := h2
    have R1 := R.go h1
    have R2 := R1.go h2
    exact ⟨V2, J2, z2, by rw [q_Law_law_1225, ld1 R hL hj, if_neg b1, ld2 R hL hj, if_neg b2, q_Law_law_1252, h1, bnI_s, ld1 R1 hL hj, if_neg b1, q_Law_law_1269, ld2 R1 hL hj, if_neg b2, h2, bnI_s, if_pos rfl, n_on], ⟨F2, Z2, g2⟩, R2, n2, c2⟩
theorem n_least (S : Stt xs V z) (R : Rg L xs (em V J z)) (hL : L ≤ 3072) (hj : 0 ≤ j ∧ j + 6 ≤ L) : Nxt L xs V J z j 1323 := by
  obtain ⟨F, Z, g⟩ := S
  have r1 := xv_r (xs := xs) (j := j + 1)
  have r2 := xv_r (xs := xs) (j := j + 2)
  have b2 : iv (Xv xs (j + 2)) = 0 ∨ ¬ iv (Xv xs (j + 2)) = 0 := Classical.em _
  rcases b2 with b2 | b2
  · have pp : Pz TXR (xI xs) V J z (fun h => cA m_X_least [.ref 8, .int (iv (Xv xs (j + 1))), .int (iv 0)] h) (fun h => cA m_M_least [.ref 435, .int (iv (Xv xs (j + 1))), .int (iv 0)] h) := ((p_least F g.1.2.2.2.2.2.2.1 r1 (Or.inl rfl)).pc TXR_ok g).pz F Z
    obtain ⟨e, V1, J1, z1, V2, J2, z2, h1, h2, g2, F2, Z2, n2, c2⟩ := pp
    have h1 : cA m_X_least [.ref 8, .int (iv (Xv xs (j + 1))), .int 0] (em V J z) = some (.int (iv e), em V1 J1 z1) := h1
    have h2 : cA m_M_least [.ref 435, .int (iv (Xv xs (j + 1))), .int 0] (em V1 J1 z1) = some (.int (iv e), em V2 J2 z2) := h2
    have R1 := R.go h1
    have R2 := R1.go h2
    exact ⟨V2, J2, z2, by rw [q_Law_law_1323, ld1 R hL hj, ld2 R hL hj, if_pos b2, q_Law_law_1342, h1, bnI_s, ld1 R1 hL hj, ld2 R1 hL hj, if_pos b2, h2, bnI_s, if_pos rfl, n_on], ⟨F2, Z2, g2⟩, R2, n2, c2⟩
  · have pp : Pz TXR (xI xs) V J z (fun h => cA m_X_least [.ref 8, .int (iv (Xv xs (j + 1))), .int (iv 1)] h) (fun h => cA m_M_least [.ref 435, .int (iv (Xv xs (j + 1))), .int (iv 1)] h) := ((p_least F g.1.2.2.2.2.2.2.1 r1 (Or.inr rfl)).pc TXR_ok g).pz F Z
    obtain ⟨e, V1, J1, z1, V2, J2, z2, h1, h2, g2, F2, Z2, n2, c2⟩ := pp
    have h1 : cA m_X_least [.ref 8, .int (iv (Xv xs (j + 1))), .int 1] (em V J z) = some (.int (iv e), em V1 J1 z1) := h1
    have h2 : cA m_M_least [.ref 435, .int (iv (Xv xs (j + 1))), .int 1] (em V1 J1 z1) = some (.int (iv e), em V2 J2 z2) := h2
    have R1 := R.go h1
    have R2 := R1.go h2
    exact ⟨V2, J2, z2, by rw [q_Law_law_1323, ld1 R hL hj, ld2 R hL hj, if_neg b2, q_Law_law_1342, h1, bnI_s, ld1 R1 hL hj, ld2 R1 hL hj, if_neg b2, h2, bnI_s, if_pos rfl, n_on], ⟨F2, Z2, g2⟩, R2, n2, c2⟩
theorem n_bite (S : Stt xs V z) (R : Rg L xs (em V J z)) (hL : L ≤ 3072) (hj : 0 ≤ j ∧ j + 6 ≤ L) : Nxt L xs V J z j 1475 := by
  obtain ⟨F, Z, g⟩ := S
  have r1 := xv_r (xs := xs) (j := j + 1)
  have r2 := xv_r (xs := xs) (j := j + 2)
  have b2 : iv (Xv xs (j + 2)) = 0 ∨ ¬ iv (Xv xs (j + 2)) = 0 := Classical.em _
  rcases b2 with b2 | b2
  · have pp : Pz TXR (xI xs) V J z (fun h => cA m_X_bite [.ref 8, .int (iv (Xv xs (j + 1))), .int (iv 0)] h) (fun h => cA m_M_bite [.ref 435, .int (iv (Xv xs (j + 1))), .int (iv 0)] h) := ((p_bite F (Los_of g.2.2.2.2.2.2.2) r1 (Or.inl rfl)).pc TXR_ok g).pz F Z
    obtain ⟨e, V1, J1, z1, V2, J2, z2, h1, h2, g2, F2, Z2, n2, c2⟩ := pp
    have h1 : cA m_X_bite [.ref 8, .int (iv (Xv xs (j + 1))), .int 0] (em V J z) = some (.int (iv e), em V1 J1 z1) := h1
    have h2 : cA m_M_bite [.ref 435, .int (iv (Xv xs (j + 1))), .int 0] (em V1 J1 z1) = some (.int (iv e), em V2 J2 z2) := h2
    have R1 := R.go h1
    have R2 := R1.go h2
    exact ⟨V2, J2, z2, by rw [q_Law_law_1475, ld1 R hL hj, ld2 R hL hj, if_pos b2, q_Law_law_1494, h1, bnI_s, ld1 R1 hL hj, ld2 R1 hL hj, if_pos b2, h2, bnI_s, if_pos rfl, n_on], ⟨F2, Z2, g2⟩, R2, n2, c2⟩
  · have pp : Pz TXR (xI xs) V J z (fun h => cA m_X_bite [.ref 8, .int (iv (Xv xs (j + 1))), .int (iv 1)] h) (fun h => cA m_M_bite [.ref 435, .int (iv (Xv xs (j + 1))), .int (iv 1)] h) := ((p_bite F (Los_of g.2.2.2.2.2.2.2) r1 (Or.inr rfl)).pc TXR_ok g).pz F Z
    obtain ⟨e, V1, J1, z1, V2, J2, z2, h1, h2, g2, F2, Z2, n2, c2⟩ := pp
    have h1 : cA m_X_bite [.ref 8, .int (iv (Xv xs (j + 1))), .int 1] (em V J z) = some (.int (iv e), em V1 J1 z1) := h1
    have h2 : cA m_M_bite [.ref 435, .int (iv (Xv xs (j + 1))), .int 1] (em V1 J1 z1) = some (.int (iv e), em V2 J2 z2) := h2
    have R1 := R.go h1
    have R2 := R1.go h2
    exact ⟨V2, J2, z2, by rw [q_Law_law_1475, ld1 R hL hj, ld2 R hL hj, if_neg b2, q_Law_law_1494, h1, bnI_s, ld1 R1 hL hj, ld2 R1 hL hj, if_neg b2, h2, bnI_s, if_pos rfl, n_on], ⟨F2, Z2, g2⟩, R2, n2, c2⟩
theorem n_near (S : Stt xs V z) (R : Rg L xs (em V J z)) (hL : L ≤ 3072) (hj : 0 ≤ j ∧ j + 6 ≤ L) : Nxt L xs V J z j 1372 := by
  obtain ⟨F, Z, g⟩ := S
  have r1 := xv_r (xs := xs) (j := j + 1)
  have r2 := xv_r (xs := xs) (j := j + 2)
  have r3 := xv_r (xs := xs) (j := j + 3)
  have r4 := xv_r (xs := xs) (j := j + 4)
  have b4 : iv (Xv xs (j + 4)) = 0 ∨ ¬ iv (Xv xs (j + 4)) = 0 := Classical.em _
  rcases b4 with b4 | b4
  · have pp : Pj V J z (fun h => cA m_X_near [.ref 8, .int (iv (Xv xs (j + 1))), .int (iv (Xv xs (j + 2))), .int (iv (Xv xs (j + 3))), .int (iv 0)] h) (fun h => cA m_M_near [.ref 435, .int (iv (Xv xs (j + 1))), .int (iv (Xv xs (j + 2))), .int (iv (Xv xs (j + 3))), .int (iv 0)] h) := p_near F r1 r2 r3 (Or.inl rfl)
    obtain ⟨e, V1, J1, V2, J2, h1, k1, h2, k2⟩ := pp
    have h1 : cA m_X_near [.ref 8, .int (iv (Xv xs (j + 1))), .int (iv (Xv xs (j + 2))), .int (iv (Xv xs (j + 3))), .int 0] (em V J z) = some (.long (jv e), em V1 J1 z) := h1
    have h2 : cA m_M_near [.ref 435, .int (iv (Xv xs (j + 1))), .int (iv (Xv xs (j + 2))), .int (iv (Xv xs (j + 3))), .int 0] (em V1 J1 z) = some (.long (jv e), em V2 J2 z) := h2
    have R1 := R.go h1
    have R2 := R1.go h2
    have lc : lg_cmp (jv e) (jv e) = 0 := jc_eq rfl
    exact ⟨V2, J2, z, by rw [q_Law_law_1372, ld1 R hL hj, ld2 R hL hj, ld3 R hL hj, ld4 R hL hj, if_pos b4, q_Law_law_1401, h1, bnJ_s, ld1 R1 hL hj, ld2 R1 hL hj, ld3 R1 hL hj, ld4 R1 hL hj, if_pos b4, h2, bnJ_s, lc, if_pos rfl, n_on], ⟨F, Z, GI_core TXR_ok g k2⟩, R2, by omega, by omega⟩
  · have pp : Pj V J z (fun h => cA m_X_near [.ref 8, .int (iv (Xv xs (j + 1))), .int (iv (Xv xs (j + 2))), .int (iv (Xv xs (j + 3))), .int (iv 1)] h) (fun h => cA m_M_near [.ref 435, .int (iv (Xv xs (j + 1))), .int (iv (Xv xs (j + 2))), .int (iv (Xv xs (j + 3))), .int (iv 1)] h) := p_near F r1 r2 r3 (Or.inr rfl)
    obtain ⟨e, V1, J1, V2, J2, h1, k1, h2, k2⟩ := pp
    have h1 : cA m_X_near [.ref 8, .int (iv (Xv xs (j + 1))), .int (iv (Xv xs (j + 2))), .int (iv (Xv xs (j + 3))), .int 1] (em V J z) = some (.long (jv e), em V1 J1 z) := h1
    have h2 : cA m_M_near [.ref 435, .int (iv (Xv xs (j + 1))), .int (iv (Xv xs (j + 2))), .int (iv (Xv xs (j + 3))), .int 1] (em V1 J1 z) = some (.long (jv e), em V2 J2 z) := h2
    have R1 := R.go h1
    have R2 := R1.go h2
    have lc : lg_cmp (jv e) (jv e) = 0 := jc_eq rfl
    exact ⟨V2, J2, z, by rw [q_Law_law_1372, ld1 R hL hj, ld2 R hL hj, ld3 R hL hj, ld4 R hL hj, if_neg b4, q_Law_law_1401, h1, bnJ_s, ld1 R1 hL hj, ld2 R1 hL hj, ld3 R1 hL hj, ld4 R1 hL hj, if_neg b4, h2, bnJ_s, lc, if_pos rfl, n_on], ⟨F, Z, GI_core TXR_ok g k2⟩, R2, by omega, by omega⟩
end
