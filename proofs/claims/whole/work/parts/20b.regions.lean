/-! Region lemmas, written by program (gen/regions_all.py) -/
theorem w_X0_remember_0 {Ln d c s : Nat} {I : Nat → Nat → Int32} {L : Nat → Nat → Int64} {Q : dd_O → Prop} (hd : 28 ≤ d) (h : ((I 31 2 = 12 → dd_Rn d m_X0_remember (32, [.ref 31, .ref 1], [], sM Ln (dd_u (dd_u I 31 (upd (I 31) 1 (((I 31 1) + 1) - ((I 31 1) + 1) / 12 * 12))) 31 (upd (upd (I 31) 1 (((I 31 1) + 1) - ((I 31 1) + 1) / 12 * 12)) 2 ((I 31 2) - 1))) L c s) Q) ∧ (¬ (I 31 2 = 12) → dd_Rn d m_X0_remember (32, [.ref 31, .ref 1], [], sM Ln I L c s) Q))) : dd_Ev d m_X0_remember [.ref 31, .ref 1] (sM Ln I L c s) Q := by
  obtain ⟨e, rfl⟩ : ∃ e, d = e + 16 := ⟨d - 16, by omega⟩
  show dd_Rn (e + 16) m_X0_remember (0, [.ref 31, .ref 1], [], sM Ln I L c s) Q
  refine dd_Rn.ite 3 (c := I 31 2 = 12) (A := (9, [.ref 31, .ref 1], [], sM Ln I L c s)) (B := (32, [.ref 31, .ref 1], [], sM Ln I L c s)) rfl (fun hc => ?_) (fun hc => ?_) (by omega)
  · have h := h.1 hc
    exact dd_Rn.go 14 (cf' := (32, [.ref 31, .ref 1], [], sM Ln (dd_u (dd_u I 31 (upd (I 31) 1 (((I 31 1) + 1) - ((I 31 1) + 1) / 12 * 12))) 31 (upd (upd (I 31) 1 (((I 31 1) + 1) - ((I 31 1) + 1) / 12 * 12)) 2 ((I 31 2) - 1))) L c s)) rfl h (by omega)
  · have h := h.2 hc
    exact dd_Rn.go 0 (cf' := (32, [.ref 31, .ref 1], [], sM Ln I L c s)) rfl h (by omega)

theorem w_X0_remember_32 {Ln d c s : Nat} {I : Nat → Nat → Int32} {L : Nat → Nat → Int64} {Q : dd_O → Prop} (hd : 28 ≤ d) (h : ((0 ≤ ((I 31 1) + (I 31 2)) - ((I 31 1) + (I 31 2)) / 12 * 12 ∧ tn (((I 31 1) + (I 31 2)) - ((I 31 1) + (I 31 2)) / 12 * 12) < 12) ∧ (tn (((I 31 1) + (I 31 2)) - ((I 31 1) + (I 31 2)) / 12 * 12) = 0 → dd_Ev (d - 1) m_X8_copyFrom [.ref 33, .ref 1] (sM Ln I L c s) (dd_RV Ln c s (fun I1 L1 => Q (none, .null, sM Ln (dd_u I1 31 (upd (I1 31) 2 ((I1 31 2) + 1))) L1 c s)))) ∧ (tn (((I 31 1) + (I 31 2)) - ((I 31 1) + (I 31 2)) / 12 * 12) = 1 → dd_Ev (d - 1) m_X8_copyFrom [.ref 41, .ref 1] (sM Ln I L c s) (dd_RV Ln c s (fun I2 L2 => Q (none, .null, sM Ln (dd_u I2 31 (upd (I2 31) 2 ((I2 31 2) + 1))) L2 c s)))) ∧ (tn (((I 31 1) + (I 31 2)) - ((I 31 1) + (I 31 2)) / 12 * 12) = 2 → dd_Ev (d - 1) m_X8_copyFrom [.ref 49, .ref 1] (sM Ln I L c s) (dd_RV Ln c s (fun I3 L3 => Q (none, .null, sM Ln (dd_u I3 31 (upd (I3 31) 2 ((I3 31 2) + 1))) L3 c s)))) ∧ (tn (((I 31 1) + (I 31 2)) - ((I 31 1) + (I 31 2)) / 12 * 12) = 3 → dd_Ev (d - 1) m_X8_copyFrom [.ref 57, .ref 1] (sM Ln I L c s) (dd_RV Ln c s (fun I4 L4 => Q (none, .null, sM Ln (dd_u I4 31 (upd (I4 31) 2 ((I4 31 2) + 1))) L4 c s)))) ∧ (tn (((I 31 1) + (I 31 2)) - ((I 31 1) + (I 31 2)) / 12 * 12) = 4 → dd_Ev (d - 1) m_X8_copyFrom [.ref 65, .ref 1] (sM Ln I L c s) (dd_RV Ln c s (fun I5 L5 => Q (none, .null, sM Ln (dd_u I5 31 (upd (I5 31) 2 ((I5 31 2) + 1))) L5 c s)))) ∧ (tn (((I 31 1) + (I 31 2)) - ((I 31 1) + (I 31 2)) / 12 * 12) = 5 → dd_Ev (d - 1) m_X8_copyFrom [.ref 73, .ref 1] (sM Ln I L c s) (dd_RV Ln c s (fun I6 L6 => Q (none, .null, sM Ln (dd_u I6 31 (upd (I6 31) 2 ((I6 31 2) + 1))) L6 c s)))) ∧ (tn (((I 31 1) + (I 31 2)) - ((I 31 1) + (I 31 2)) / 12 * 12) = 6 → dd_Ev (d - 1) m_X8_copyFrom [.ref 81, .ref 1] (sM Ln I L c s) (dd_RV Ln c s (fun I7 L7 => Q (none, .null, sM Ln (dd_u I7 31 (upd (I7 31) 2 ((I7 31 2) + 1))) L7 c s)))) ∧ (tn (((I 31 1) + (I 31 2)) - ((I 31 1) + (I 31 2)) / 12 * 12) = 7 → dd_Ev (d - 1) m_X8_copyFrom [.ref 89, .ref 1] (sM Ln I L c s) (dd_RV Ln c s (fun I8 L8 => Q (none, .null, sM Ln (dd_u I8 31 (upd (I8 31) 2 ((I8 31 2) + 1))) L8 c s)))) ∧ (tn (((I 31 1) + (I 31 2)) - ((I 31 1) + (I 31 2)) / 12 * 12) = 8 → dd_Ev (d - 1) m_X8_copyFrom [.ref 97, .ref 1] (sM Ln I L c s) (dd_RV Ln c s (fun I9 L9 => Q (none, .null, sM Ln (dd_u I9 31 (upd (I9 31) 2 ((I9 31 2) + 1))) L9 c s)))) ∧ (tn (((I 31 1) + (I 31 2)) - ((I 31 1) + (I 31 2)) / 12 * 12) = 9 → dd_Ev (d - 1) m_X8_copyFrom [.ref 105, .ref 1] (sM Ln I L c s) (dd_RV Ln c s (fun I10 L10 => Q (none, .null, sM Ln (dd_u I10 31 (upd (I10 31) 2 ((I10 31 2) + 1))) L10 c s)))) ∧ (tn (((I 31 1) + (I 31 2)) - ((I 31 1) + (I 31 2)) / 12 * 12) = 10 → dd_Ev (d - 1) m_X8_copyFrom [.ref 113, .ref 1] (sM Ln I L c s) (dd_RV Ln c s (fun I11 L11 => Q (none, .null, sM Ln (dd_u I11 31 (upd (I11 31) 2 ((I11 31 2) + 1))) L11 c s)))) ∧ (tn (((I 31 1) + (I 31 2)) - ((I 31 1) + (I 31 2)) / 12 * 12) = 11 → dd_Ev (d - 1) m_X8_copyFrom [.ref 121, .ref 1] (sM Ln I L c s) (dd_RV Ln c s (fun I12 L12 => Q (none, .null, sM Ln (dd_u I12 31 (upd (I12 31) 2 ((I12 31 2) + 1))) L12 c s)))))) : dd_Rn d m_X0_remember (32, [.ref 31, .ref 1], [], sM Ln I L c s) Q := by
  obtain ⟨e, rfl⟩ : ∃ e, d = e + 16 := ⟨d - 16, by omega⟩
  obtain ⟨hc, h⟩ := h
  have hs : tn (((I 31 1) + (I 31 2)) - ((I 31 1) + (I 31 2)) / 12 * 12) = 0 ∨ tn (((I 31 1) + (I 31 2)) - ((I 31 1) + (I 31 2)) / 12 * 12) = 1 ∨ tn (((I 31 1) + (I 31 2)) - ((I 31 1) + (I 31 2)) / 12 * 12) = 2 ∨ tn (((I 31 1) + (I 31 2)) - ((I 31 1) + (I 31 2)) / 12 * 12) = 3 ∨ tn (((I 31 1) + (I 31 2)) - ((I 31 1) + (I 31 2)) / 12 * 12) = 4 ∨ tn (((I 31 1) + (I 31 2)) - ((I 31 1) + (I 31 2)) / 12 * 12) = 5 ∨ tn (((I 31 1) + (I 31 2)) - ((I 31 1) + (I 31 2)) / 12 * 12) = 6 ∨ tn (((I 31 1) + (I 31 2)) - ((I 31 1) + (I 31 2)) / 12 * 12) = 7 ∨ tn (((I 31 1) + (I 31 2)) - ((I 31 1) + (I 31 2)) / 12 * 12) = 8 ∨ tn (((I 31 1) + (I 31 2)) - ((I 31 1) + (I 31 2)) / 12 * 12) = 9 ∨ tn (((I 31 1) + (I 31 2)) - ((I 31 1) + (I 31 2)) / 12 * 12) = 10 ∨ tn (((I 31 1) + (I 31 2)) - ((I 31 1) + (I 31 2)) / 12 * 12) = 11 := by omega
  rcases hs with hs | hs
  · have h := h.1 hs
    refine dd_Rn.aa 9 (c := 0 ≤ ((I 31 1) + (I 31 2)) - ((I 31 1) + (I 31 2)) / 12 * 12 ∧ tn (((I 31 1) + (I 31 2)) - ((I 31 1) + (I 31 2)) / 12 * 12) < 12) (n := tn (((I 31 1) + (I 31 2)) - ((I 31 1) + (I 31 2)) / 12 * 12)) (i := 0) (r := 32) (pc := 49) (ls := [.ref 31, .ref 1]) (st := []) (M := sM Ln I L c s) rfl hc hs rfl ?_ (by omega)
    show dd_Rn (e + 16) m_X0_remember (49, [.ref 31, .ref 1], [.ref 33], sM Ln I L c s) _
    refine dd_Rn.cV 1 (pc := 50) (ls := [.ref 31, .ref 1]) (st := [.ref 1, .ref 33]) (x := m_X8_copyFrom) (as := [.ref 33, .ref 1]) (rest := []) rfl rfl rfl rfl h ?_
    intro I1 L1 h
    show dd_Rn (e + 16) m_X0_remember (53, [.ref 31, .ref 1], [], sM Ln I1 L1 c s) _
    exact dd_Rn.retK 6 (pc := 63) (ls := [.ref 31, .ref 1]) (st := []) (M := sM Ln (dd_u I1 31 (upd (I1 31) 2 ((I1 31 2) + 1))) L1 c s) (o := (none, .null, sM Ln (dd_u I1 31 (upd (I1 31) 2 ((I1 31 2) + 1))) L1 c s)) rfl rfl h (by omega)
  have h := h.2
  rcases hs with hs | hs
  · have h := h.1 hs
    refine dd_Rn.aa 9 (c := 0 ≤ ((I 31 1) + (I 31 2)) - ((I 31 1) + (I 31 2)) / 12 * 12 ∧ tn (((I 31 1) + (I 31 2)) - ((I 31 1) + (I 31 2)) / 12 * 12) < 12) (n := tn (((I 31 1) + (I 31 2)) - ((I 31 1) + (I 31 2)) / 12 * 12)) (i := 1) (r := 40) (pc := 49) (ls := [.ref 31, .ref 1]) (st := []) (M := sM Ln I L c s) rfl hc hs rfl ?_ (by omega)
    show dd_Rn (e + 16) m_X0_remember (49, [.ref 31, .ref 1], [.ref 41], sM Ln I L c s) _
    refine dd_Rn.cV 1 (pc := 50) (ls := [.ref 31, .ref 1]) (st := [.ref 1, .ref 41]) (x := m_X8_copyFrom) (as := [.ref 41, .ref 1]) (rest := []) rfl rfl rfl rfl h ?_
    intro I2 L2 h
    show dd_Rn (e + 16) m_X0_remember (53, [.ref 31, .ref 1], [], sM Ln I2 L2 c s) _
    exact dd_Rn.retK 6 (pc := 63) (ls := [.ref 31, .ref 1]) (st := []) (M := sM Ln (dd_u I2 31 (upd (I2 31) 2 ((I2 31 2) + 1))) L2 c s) (o := (none, .null, sM Ln (dd_u I2 31 (upd (I2 31) 2 ((I2 31 2) + 1))) L2 c s)) rfl rfl h (by omega)
  have h := h.2
  rcases hs with hs | hs
  · have h := h.1 hs
    refine dd_Rn.aa 9 (c := 0 ≤ ((I 31 1) + (I 31 2)) - ((I 31 1) + (I 31 2)) / 12 * 12 ∧ tn (((I 31 1) + (I 31 2)) - ((I 31 1) + (I 31 2)) / 12 * 12) < 12) (n := tn (((I 31 1) + (I 31 2)) - ((I 31 1) + (I 31 2)) / 12 * 12)) (i := 2) (r := 48) (pc := 49) (ls := [.ref 31, .ref 1]) (st := []) (M := sM Ln I L c s) rfl hc hs rfl ?_ (by omega)
    show dd_Rn (e + 16) m_X0_remember (49, [.ref 31, .ref 1], [.ref 49], sM Ln I L c s) _
    refine dd_Rn.cV 1 (pc := 50) (ls := [.ref 31, .ref 1]) (st := [.ref 1, .ref 49]) (x := m_X8_copyFrom) (as := [.ref 49, .ref 1]) (rest := []) rfl rfl rfl rfl h ?_
    intro I3 L3 h
    show dd_Rn (e + 16) m_X0_remember (53, [.ref 31, .ref 1], [], sM Ln I3 L3 c s) _
    exact dd_Rn.retK 6 (pc := 63) (ls := [.ref 31, .ref 1]) (st := []) (M := sM Ln (dd_u I3 31 (upd (I3 31) 2 ((I3 31 2) + 1))) L3 c s) (o := (none, .null, sM Ln (dd_u I3 31 (upd (I3 31) 2 ((I3 31 2) + 1))) L3 c s)) rfl rfl h (by omega)
  have h := h.2
  rcases hs with hs | hs
  · have h := h.1 hs
    refine dd_Rn.aa 9 (c := 0 ≤ ((I 31 1) + (I 31 2)) - ((I 31 1) + (I 31 2)) / 12 * 12 ∧ tn (((I 31 1) + (I 31 2)) - ((I 31 1) + (I 31 2)) / 12 * 12) < 12) (n := tn (((I 31 1) + (I 31 2)) - ((I 31 1) + (I 31 2)) / 12 * 12)) (i := 3) (r := 56) (pc := 49) (ls := [.ref 31, .ref 1]) (st := []) (M := sM Ln I L c s) rfl hc hs rfl ?_ (by omega)
    show dd_Rn (e + 16) m_X0_remember (49, [.ref 31, .ref 1], [.ref 57], sM Ln I L c s) _
    refine dd_Rn.cV 1 (pc := 50) (ls := [.ref 31, .ref 1]) (st := [.ref 1, .ref 57]) (x := m_X8_copyFrom) (as := [.ref 57, .ref 1]) (rest := []) rfl rfl rfl rfl h ?_
    intro I4 L4 h
    show dd_Rn (e + 16) m_X0_remember (53, [.ref 31, .ref 1], [], sM Ln I4 L4 c s) _
    exact dd_Rn.retK 6 (pc := 63) (ls := [.ref 31, .ref 1]) (st := []) (M := sM Ln (dd_u I4 31 (upd (I4 31) 2 ((I4 31 2) + 1))) L4 c s) (o := (none, .null, sM Ln (dd_u I4 31 (upd (I4 31) 2 ((I4 31 2) + 1))) L4 c s)) rfl rfl h (by omega)
  have h := h.2
  rcases hs with hs | hs
  · have h := h.1 hs
    refine dd_Rn.aa 9 (c := 0 ≤ ((I 31 1) + (I 31 2)) - ((I 31 1) + (I 31 2)) / 12 * 12 ∧ tn (((I 31 1) + (I 31 2)) - ((I 31 1) + (I 31 2)) / 12 * 12) < 12) (n := tn (((I 31 1) + (I 31 2)) - ((I 31 1) + (I 31 2)) / 12 * 12)) (i := 4) (r := 64) (pc := 49) (ls := [.ref 31, .ref 1]) (st := []) (M := sM Ln I L c s) rfl hc hs rfl ?_ (by omega)
    show dd_Rn (e + 16) m_X0_remember (49, [.ref 31, .ref 1], [.ref 65], sM Ln I L c s) _
    refine dd_Rn.cV 1 (pc := 50) (ls := [.ref 31, .ref 1]) (st := [.ref 1, .ref 65]) (x := m_X8_copyFrom) (as := [.ref 65, .ref 1]) (rest := []) rfl rfl rfl rfl h ?_
    intro I5 L5 h
    show dd_Rn (e + 16) m_X0_remember (53, [.ref 31, .ref 1], [], sM Ln I5 L5 c s) _
    exact dd_Rn.retK 6 (pc := 63) (ls := [.ref 31, .ref 1]) (st := []) (M := sM Ln (dd_u I5 31 (upd (I5 31) 2 ((I5 31 2) + 1))) L5 c s) (o := (none, .null, sM Ln (dd_u I5 31 (upd (I5 31) 2 ((I5 31 2) + 1))) L5 c s)) rfl rfl h (by omega)
  have h := h.2
  rcases hs with hs | hs
  · have h := h.1 hs
    refine dd_Rn.aa 9 (c := 0 ≤ ((I 31 1) + (I 31 2)) - ((I 31 1) + (I 31 2)) / 12 * 12 ∧ tn (((I 31 1) + (I 31 2)) - ((I 31 1) + (I 31 2)) / 12 * 12) < 12) (n := tn (((I 31 1) + (I 31 2)) - ((I 31 1) + (I 31 2)) / 12 * 12)) (i := 5) (r := 72) (pc := 49) (ls := [.ref 31, .ref 1]) (st := []) (M := sM Ln I L c s) rfl hc hs rfl ?_ (by omega)
    show dd_Rn (e + 16) m_X0_remember (49, [.ref 31, .ref 1], [.ref 73], sM Ln I L c s) _
    refine dd_Rn.cV 1 (pc := 50) (ls := [.ref 31, .ref 1]) (st := [.ref 1, .ref 73]) (x := m_X8_copyFrom) (as := [.ref 73, .ref 1]) (rest := []) rfl rfl rfl rfl h ?_
    intro I6 L6 h
    show dd_Rn (e + 16) m_X0_remember (53, [.ref 31, .ref 1], [], sM Ln I6 L6 c s) _
    exact dd_Rn.retK 6 (pc := 63) (ls := [.ref 31, .ref 1]) (st := []) (M := sM Ln (dd_u I6 31 (upd (I6 31) 2 ((I6 31 2) + 1))) L6 c s) (o := (none, .null, sM Ln (dd_u I6 31 (upd (I6 31) 2 ((I6 31 2) + 1))) L6 c s)) rfl rfl h (by omega)
  have h := h.2
  rcases hs with hs | hs
  · have h := h.1 hs
    refine dd_Rn.aa 9 (c := 0 ≤ ((I 31 1) + (I 31 2)) - ((I 31 1) + (I 31 2)) / 12 * 12 ∧ tn (((I 31 1) + (I 31 2)) - ((I 31 1) + (I 31 2)) / 12 * 12) < 12) (n := tn (((I 31 1) + (I 31 2)) - ((I 31 1) + (I 31 2)) / 12 * 12)) (i := 6) (r := 80) (pc := 49) (ls := [.ref 31, .ref 1]) (st := []) (M := sM Ln I L c s) rfl hc hs rfl ?_ (by omega)
    show dd_Rn (e + 16) m_X0_remember (49, [.ref 31, .ref 1], [.ref 81], sM Ln I L c s) _
    refine dd_Rn.cV 1 (pc := 50) (ls := [.ref 31, .ref 1]) (st := [.ref 1, .ref 81]) (x := m_X8_copyFrom) (as := [.ref 81, .ref 1]) (rest := []) rfl rfl rfl rfl h ?_
    intro I7 L7 h
    show dd_Rn (e + 16) m_X0_remember (53, [.ref 31, .ref 1], [], sM Ln I7 L7 c s) _
    exact dd_Rn.retK 6 (pc := 63) (ls := [.ref 31, .ref 1]) (st := []) (M := sM Ln (dd_u I7 31 (upd (I7 31) 2 ((I7 31 2) + 1))) L7 c s) (o := (none, .null, sM Ln (dd_u I7 31 (upd (I7 31) 2 ((I7 31 2) + 1))) L7 c s)) rfl rfl h (by omega)
  have h := h.2
  rcases hs with hs | hs
  · have h := h.1 hs
    refine dd_Rn.aa 9 (c := 0 ≤ ((I 31 1) + (I 31 2)) - ((I 31 1) + (I 31 2)) / 12 * 12 ∧ tn (((I 31 1) + (I 31 2)) - ((I 31 1) + (I 31 2)) / 12 * 12) < 12) (n := tn (((I 31 1) + (I 31 2)) - ((I 31 1) + (I 31 2)) / 12 * 12)) (i := 7) (r := 88) (pc := 49) (ls := [.ref 31, .ref 1]) (st := []) (M := sM Ln I L c s) rfl hc hs rfl ?_ (by omega)
    show dd_Rn (e + 16) m_X0_remember (49, [.ref 31, .ref 1], [.ref 89], sM Ln I L c s) _
    refine dd_Rn.cV 1 (pc := 50) (ls := [.ref 31, .ref 1]) (st := [.ref 1, .ref 89]) (x := m_X8_copyFrom) (as := [.ref 89, .ref 1]) (rest := []) rfl rfl rfl rfl h ?_
    intro I8 L8 h
    show dd_Rn (e + 16) m_X0_remember (53, [.ref 31, .ref 1], [], sM Ln I8 L8 c s) _
    exact dd_Rn.retK 6 (pc := 63) (ls := [.ref 31, .ref 1]) (st := []) (M := sM Ln (dd_u I8 31 (upd (I8 31) 2 ((I8 31 2) + 1))) L8 c s) (o := (none, .null, sM Ln (dd_u I8 31 (upd (I8 31) 2 ((I8 31 2) + 1))) L8 c s)) rfl rfl h (by omega)
  have h := h.2
  rcases hs with hs | hs
  · have h := h.1 hs
    refine dd_Rn.aa 9 (c := 0 ≤ ((I 31 1) + (I 31 2)) - ((I 31 1) + (I 31 2)) / 12 * 12 ∧ tn (((I 31 1) + (I 31 2)) - ((I 31 1) + (I 31 2)) / 12 * 12) < 12) (n := tn (((I 31 1) + (I 31 2)) - ((I 31 1) + (I 31 2)) / 12 * 12)) (i := 8) (r := 96) (pc := 49) (ls := [.ref 31, .ref 1]) (st := []) (M := sM Ln I L c s) rfl hc hs rfl ?_ (by omega)
    show dd_Rn (e + 16) m_X0_remember (49, [.ref 31, .ref 1], [.ref 97], sM Ln I L c s) _
    refine dd_Rn.cV 1 (pc := 50) (ls := [.ref 31, .ref 1]) (st := [.ref 1, .ref 97]) (x := m_X8_copyFrom) (as := [.ref 97, .ref 1]) (rest := []) rfl rfl rfl rfl h ?_
    intro I9 L9 h
    show dd_Rn (e + 16) m_X0_remember (53, [.ref 31, .ref 1], [], sM Ln I9 L9 c s) _
    exact dd_Rn.retK 6 (pc := 63) (ls := [.ref 31, .ref 1]) (st := []) (M := sM Ln (dd_u I9 31 (upd (I9 31) 2 ((I9 31 2) + 1))) L9 c s) (o := (none, .null, sM Ln (dd_u I9 31 (upd (I9 31) 2 ((I9 31 2) + 1))) L9 c s)) rfl rfl h (by omega)
  have h := h.2
  rcases hs with hs | hs
  · have h := h.1 hs
    refine dd_Rn.aa 9 (c := 0 ≤ ((I 31 1) + (I 31 2)) - ((I 31 1) + (I 31 2)) / 12 * 12 ∧ tn (((I 31 1) + (I 31 2)) - ((I 31 1) + (I 31 2)) / 12 * 12) < 12) (n := tn (((I 31 1) + (I 31 2)) - ((I 31 1) + (I 31 2)) / 12 * 12)) (i := 9) (r := 104) (pc := 49) (ls := [.ref 31, .ref 1]) (st := []) (M := sM Ln I L c s) rfl hc hs rfl ?_ (by omega)
    show dd_Rn (e + 16) m_X0_remember (49, [.ref 31, .ref 1], [.ref 105], sM Ln I L c s) _
    refine dd_Rn.cV 1 (pc := 50) (ls := [.ref 31, .ref 1]) (st := [.ref 1, .ref 105]) (x := m_X8_copyFrom) (as := [.ref 105, .ref 1]) (rest := []) rfl rfl rfl rfl h ?_
    intro I10 L10 h
    show dd_Rn (e + 16) m_X0_remember (53, [.ref 31, .ref 1], [], sM Ln I10 L10 c s) _
    exact dd_Rn.retK 6 (pc := 63) (ls := [.ref 31, .ref 1]) (st := []) (M := sM Ln (dd_u I10 31 (upd (I10 31) 2 ((I10 31 2) + 1))) L10 c s) (o := (none, .null, sM Ln (dd_u I10 31 (upd (I10 31) 2 ((I10 31 2) + 1))) L10 c s)) rfl rfl h (by omega)
  have h := h.2
  rcases hs with hs | hs
  · have h := h.1 hs
    refine dd_Rn.aa 9 (c := 0 ≤ ((I 31 1) + (I 31 2)) - ((I 31 1) + (I 31 2)) / 12 * 12 ∧ tn (((I 31 1) + (I 31 2)) - ((I 31 1) + (I 31 2)) / 12 * 12) < 12) (n := tn (((I 31 1) + (I 31 2)) - ((I 31 1) + (I 31 2)) / 12 * 12)) (i := 10) (r := 112) (pc := 49) (ls := [.ref 31, .ref 1]) (st := []) (M := sM Ln I L c s) rfl hc hs rfl ?_ (by omega)
    show dd_Rn (e + 16) m_X0_remember (49, [.ref 31, .ref 1], [.ref 113], sM Ln I L c s) _
    refine dd_Rn.cV 1 (pc := 50) (ls := [.ref 31, .ref 1]) (st := [.ref 1, .ref 113]) (x := m_X8_copyFrom) (as := [.ref 113, .ref 1]) (rest := []) rfl rfl rfl rfl h ?_
    intro I11 L11 h
    show dd_Rn (e + 16) m_X0_remember (53, [.ref 31, .ref 1], [], sM Ln I11 L11 c s) _
    exact dd_Rn.retK 6 (pc := 63) (ls := [.ref 31, .ref 1]) (st := []) (M := sM Ln (dd_u I11 31 (upd (I11 31) 2 ((I11 31 2) + 1))) L11 c s) (o := (none, .null, sM Ln (dd_u I11 31 (upd (I11 31) 2 ((I11 31 2) + 1))) L11 c s)) rfl rfl h (by omega)
  have h := h.2
  · have h := h hs
    refine dd_Rn.aa 9 (c := 0 ≤ ((I 31 1) + (I 31 2)) - ((I 31 1) + (I 31 2)) / 12 * 12 ∧ tn (((I 31 1) + (I 31 2)) - ((I 31 1) + (I 31 2)) / 12 * 12) < 12) (n := tn (((I 31 1) + (I 31 2)) - ((I 31 1) + (I 31 2)) / 12 * 12)) (i := 11) (r := 120) (pc := 49) (ls := [.ref 31, .ref 1]) (st := []) (M := sM Ln I L c s) rfl hc hs rfl ?_ (by omega)
    show dd_Rn (e + 16) m_X0_remember (49, [.ref 31, .ref 1], [.ref 121], sM Ln I L c s) _
    refine dd_Rn.cV 1 (pc := 50) (ls := [.ref 31, .ref 1]) (st := [.ref 1, .ref 121]) (x := m_X8_copyFrom) (as := [.ref 121, .ref 1]) (rest := []) rfl rfl rfl rfl h ?_
    intro I12 L12 h
    show dd_Rn (e + 16) m_X0_remember (53, [.ref 31, .ref 1], [], sM Ln I12 L12 c s) _
    exact dd_Rn.retK 6 (pc := 63) (ls := [.ref 31, .ref 1]) (st := []) (M := sM Ln (dd_u I12 31 (upd (I12 31) 2 ((I12 31 2) + 1))) L12 c s) (o := (none, .null, sM Ln (dd_u I12 31 (upd (I12 31) 2 ((I12 31 2) + 1))) L12 c s)) rfl rfl h (by omega)

theorem w_X0_takeBack_0 {Ln d c s : Nat} {I : Nat → Nat → Int32} {L : Nat → Nat → Int64} {Q : dd_O → Prop} (hd : 28 ≤ d) (h : ((I 31 2 = 0 → Q (none, .int 0, sM Ln I L c s)) ∧ (¬ (I 31 2 = 0) → ((0 ≤ ((I 31 1) + ((I 31 2) - 1)) - ((I 31 1) + ((I 31 2) - 1)) / 12 * 12 ∧ tn (((I 31 1) + ((I 31 2) - 1)) - ((I 31 1) + ((I 31 2) - 1)) / 12 * 12) < 12) ∧ (tn (((I 31 1) + ((I 31 2) - 1)) - ((I 31 1) + ((I 31 2) - 1)) / 12 * 12) = 0 → dd_Ev (d - 1) m_X8_copyFrom [.ref 1, .ref 33] (sM Ln (dd_u I 31 (upd (I 31) 2 ((I 31 2) - 1))) L c s) (dd_RV Ln c s (fun I1 L1 => Q (none, .int 1, sM Ln I1 L1 c s)))) ∧ (tn (((I 31 1) + ((I 31 2) - 1)) - ((I 31 1) + ((I 31 2) - 1)) / 12 * 12) = 1 → dd_Ev (d - 1) m_X8_copyFrom [.ref 1, .ref 41] (sM Ln (dd_u I 31 (upd (I 31) 2 ((I 31 2) - 1))) L c s) (dd_RV Ln c s (fun I2 L2 => Q (none, .int 1, sM Ln I2 L2 c s)))) ∧ (tn (((I 31 1) + ((I 31 2) - 1)) - ((I 31 1) + ((I 31 2) - 1)) / 12 * 12) = 2 → dd_Ev (d - 1) m_X8_copyFrom [.ref 1, .ref 49] (sM Ln (dd_u I 31 (upd (I 31) 2 ((I 31 2) - 1))) L c s) (dd_RV Ln c s (fun I3 L3 => Q (none, .int 1, sM Ln I3 L3 c s)))) ∧ (tn (((I 31 1) + ((I 31 2) - 1)) - ((I 31 1) + ((I 31 2) - 1)) / 12 * 12) = 3 → dd_Ev (d - 1) m_X8_copyFrom [.ref 1, .ref 57] (sM Ln (dd_u I 31 (upd (I 31) 2 ((I 31 2) - 1))) L c s) (dd_RV Ln c s (fun I4 L4 => Q (none, .int 1, sM Ln I4 L4 c s)))) ∧ (tn (((I 31 1) + ((I 31 2) - 1)) - ((I 31 1) + ((I 31 2) - 1)) / 12 * 12) = 4 → dd_Ev (d - 1) m_X8_copyFrom [.ref 1, .ref 65] (sM Ln (dd_u I 31 (upd (I 31) 2 ((I 31 2) - 1))) L c s) (dd_RV Ln c s (fun I5 L5 => Q (none, .int 1, sM Ln I5 L5 c s)))) ∧ (tn (((I 31 1) + ((I 31 2) - 1)) - ((I 31 1) + ((I 31 2) - 1)) / 12 * 12) = 5 → dd_Ev (d - 1) m_X8_copyFrom [.ref 1, .ref 73] (sM Ln (dd_u I 31 (upd (I 31) 2 ((I 31 2) - 1))) L c s) (dd_RV Ln c s (fun I6 L6 => Q (none, .int 1, sM Ln I6 L6 c s)))) ∧ (tn (((I 31 1) + ((I 31 2) - 1)) - ((I 31 1) + ((I 31 2) - 1)) / 12 * 12) = 6 → dd_Ev (d - 1) m_X8_copyFrom [.ref 1, .ref 81] (sM Ln (dd_u I 31 (upd (I 31) 2 ((I 31 2) - 1))) L c s) (dd_RV Ln c s (fun I7 L7 => Q (none, .int 1, sM Ln I7 L7 c s)))) ∧ (tn (((I 31 1) + ((I 31 2) - 1)) - ((I 31 1) + ((I 31 2) - 1)) / 12 * 12) = 7 → dd_Ev (d - 1) m_X8_copyFrom [.ref 1, .ref 89] (sM Ln (dd_u I 31 (upd (I 31) 2 ((I 31 2) - 1))) L c s) (dd_RV Ln c s (fun I8 L8 => Q (none, .int 1, sM Ln I8 L8 c s)))) ∧ (tn (((I 31 1) + ((I 31 2) - 1)) - ((I 31 1) + ((I 31 2) - 1)) / 12 * 12) = 8 → dd_Ev (d - 1) m_X8_copyFrom [.ref 1, .ref 97] (sM Ln (dd_u I 31 (upd (I 31) 2 ((I 31 2) - 1))) L c s) (dd_RV Ln c s (fun I9 L9 => Q (none, .int 1, sM Ln I9 L9 c s)))) ∧ (tn (((I 31 1) + ((I 31 2) - 1)) - ((I 31 1) + ((I 31 2) - 1)) / 12 * 12) = 9 → dd_Ev (d - 1) m_X8_copyFrom [.ref 1, .ref 105] (sM Ln (dd_u I 31 (upd (I 31) 2 ((I 31 2) - 1))) L c s) (dd_RV Ln c s (fun I10 L10 => Q (none, .int 1, sM Ln I10 L10 c s)))) ∧ (tn (((I 31 1) + ((I 31 2) - 1)) - ((I 31 1) + ((I 31 2) - 1)) / 12 * 12) = 10 → dd_Ev (d - 1) m_X8_copyFrom [.ref 1, .ref 113] (sM Ln (dd_u I 31 (upd (I 31) 2 ((I 31 2) - 1))) L c s) (dd_RV Ln c s (fun I11 L11 => Q (none, .int 1, sM Ln I11 L11 c s)))) ∧ (tn (((I 31 1) + ((I 31 2) - 1)) - ((I 31 1) + ((I 31 2) - 1)) / 12 * 12) = 11 → dd_Ev (d - 1) m_X8_copyFrom [.ref 1, .ref 121] (sM Ln (dd_u I 31 (upd (I 31) 2 ((I 31 2) - 1))) L c s) (dd_RV Ln c s (fun I12 L12 => Q (none, .int 1, sM Ln I12 L12 c s)))))))) : dd_Ev d m_X0_takeBack [.ref 31, .ref 1] (sM Ln I L c s) Q := by
  obtain ⟨e, rfl⟩ : ∃ e, d = e + 16 := ⟨d - 16, by omega⟩
  show dd_Rn (e + 16) m_X0_takeBack (0, [.ref 31, .ref 1], [], sM Ln I L c s) Q
  refine dd_Rn.ite 2 (c := I 31 2 = 0) (A := (7, [.ref 31, .ref 1], [], sM Ln I L c s)) (B := (9, [.ref 31, .ref 1], [], sM Ln I L c s)) rfl (fun hc => ?_) (fun hc => ?_) (by omega)
  · have h := h.1 hc
    exact dd_Rn.retK 1 (pc := 8) (ls := [.ref 31, .ref 1]) (st := [.int 0]) (M := sM Ln I L c s) (o := (none, .int 0, sM Ln I L c s)) rfl rfl h (by omega)
  · have h := h.2 hc
    obtain ⟨hc, h⟩ := h
    have hs : tn (((I 31 1) + ((I 31 2) - 1)) - ((I 31 1) + ((I 31 2) - 1)) / 12 * 12) = 0 ∨ tn (((I 31 1) + ((I 31 2) - 1)) - ((I 31 1) + ((I 31 2) - 1)) / 12 * 12) = 1 ∨ tn (((I 31 1) + ((I 31 2) - 1)) - ((I 31 1) + ((I 31 2) - 1)) / 12 * 12) = 2 ∨ tn (((I 31 1) + ((I 31 2) - 1)) - ((I 31 1) + ((I 31 2) - 1)) / 12 * 12) = 3 ∨ tn (((I 31 1) + ((I 31 2) - 1)) - ((I 31 1) + ((I 31 2) - 1)) / 12 * 12) = 4 ∨ tn (((I 31 1) + ((I 31 2) - 1)) - ((I 31 1) + ((I 31 2) - 1)) / 12 * 12) = 5 ∨ tn (((I 31 1) + ((I 31 2) - 1)) - ((I 31 1) + ((I 31 2) - 1)) / 12 * 12) = 6 ∨ tn (((I 31 1) + ((I 31 2) - 1)) - ((I 31 1) + ((I 31 2) - 1)) / 12 * 12) = 7 ∨ tn (((I 31 1) + ((I 31 2) - 1)) - ((I 31 1) + ((I 31 2) - 1)) / 12 * 12) = 8 ∨ tn (((I 31 1) + ((I 31 2) - 1)) - ((I 31 1) + ((I 31 2) - 1)) / 12 * 12) = 9 ∨ tn (((I 31 1) + ((I 31 2) - 1)) - ((I 31 1) + ((I 31 2) - 1)) / 12 * 12) = 10 ∨ tn (((I 31 1) + ((I 31 2) - 1)) - ((I 31 1) + ((I 31 2) - 1)) / 12 * 12) = 11 := by omega
    rcases hs with hs | hs
    · have h := h.1 hs
      refine dd_Rn.aa 16 (c := 0 ≤ ((I 31 1) + ((I 31 2) - 1)) - ((I 31 1) + ((I 31 2) - 1)) / 12 * 12 ∧ tn (((I 31 1) + ((I 31 2) - 1)) - ((I 31 1) + ((I 31 2) - 1)) / 12 * 12) < 12) (n := tn (((I 31 1) + ((I 31 2) - 1)) - ((I 31 1) + ((I 31 2) - 1)) / 12 * 12)) (i := 0) (r := 32) (pc := 37) (ls := [.ref 31, .ref 1]) (st := [.ref 1]) (M := sM Ln (dd_u I 31 (upd (I 31) 2 ((I 31 2) - 1))) L c s) rfl hc hs rfl ?_ (by omega)
      show dd_Rn (e + 16) m_X0_takeBack (37, [.ref 31, .ref 1], [.ref 33, .ref 1], sM Ln (dd_u I 31 (upd (I 31) 2 ((I 31 2) - 1))) L c s) _
      refine dd_Rn.cV 0 (pc := 37) (ls := [.ref 31, .ref 1]) (st := [.ref 33, .ref 1]) (x := m_X8_copyFrom) (as := [.ref 1, .ref 33]) (rest := []) rfl rfl rfl rfl h ?_
      intro I1 L1 h
      show dd_Rn (e + 16) m_X0_takeBack (40, [.ref 31, .ref 1], [], sM Ln I1 L1 c s) _
      exact dd_Rn.retK 1 (pc := 41) (ls := [.ref 31, .ref 1]) (st := [.int 1]) (M := sM Ln I1 L1 c s) (o := (none, .int 1, sM Ln I1 L1 c s)) rfl rfl h (by omega)
    have h := h.2
    rcases hs with hs | hs
    · have h := h.1 hs
      refine dd_Rn.aa 16 (c := 0 ≤ ((I 31 1) + ((I 31 2) - 1)) - ((I 31 1) + ((I 31 2) - 1)) / 12 * 12 ∧ tn (((I 31 1) + ((I 31 2) - 1)) - ((I 31 1) + ((I 31 2) - 1)) / 12 * 12) < 12) (n := tn (((I 31 1) + ((I 31 2) - 1)) - ((I 31 1) + ((I 31 2) - 1)) / 12 * 12)) (i := 1) (r := 40) (pc := 37) (ls := [.ref 31, .ref 1]) (st := [.ref 1]) (M := sM Ln (dd_u I 31 (upd (I 31) 2 ((I 31 2) - 1))) L c s) rfl hc hs rfl ?_ (by omega)
      show dd_Rn (e + 16) m_X0_takeBack (37, [.ref 31, .ref 1], [.ref 41, .ref 1], sM Ln (dd_u I 31 (upd (I 31) 2 ((I 31 2) - 1))) L c s) _
      refine dd_Rn.cV 0 (pc := 37) (ls := [.ref 31, .ref 1]) (st := [.ref 41, .ref 1]) (x := m_X8_copyFrom) (as := [.ref 1, .ref 41]) (rest := []) rfl rfl rfl rfl h ?_
      intro I2 L2 h
      show dd_Rn (e + 16) m_X0_takeBack (40, [.ref 31, .ref 1], [], sM Ln I2 L2 c s) _
      exact dd_Rn.retK 1 (pc := 41) (ls := [.ref 31, .ref 1]) (st := [.int 1]) (M := sM Ln I2 L2 c s) (o := (none, .int 1, sM Ln I2 L2 c s)) rfl rfl h (by omega)
    have h := h.2
    rcases hs with hs | hs
    · have h := h.1 hs
      refine dd_Rn.aa 16 (c := 0 ≤ ((I 31 1) + ((I 31 2) - 1)) - ((I 31 1) + ((I 31 2) - 1)) / 12 * 12 ∧ tn (((I 31 1) + ((I 31 2) - 1)) - ((I 31 1) + ((I 31 2) - 1)) / 12 * 12) < 12) (n := tn (((I 31 1) + ((I 31 2) - 1)) - ((I 31 1) + ((I 31 2) - 1)) / 12 * 12)) (i := 2) (r := 48) (pc := 37) (ls := [.ref 31, .ref 1]) (st := [.ref 1]) (M := sM Ln (dd_u I 31 (upd (I 31) 2 ((I 31 2) - 1))) L c s) rfl hc hs rfl ?_ (by omega)
      show dd_Rn (e + 16) m_X0_takeBack (37, [.ref 31, .ref 1], [.ref 49, .ref 1], sM Ln (dd_u I 31 (upd (I 31) 2 ((I 31 2) - 1))) L c s) _
      refine dd_Rn.cV 0 (pc := 37) (ls := [.ref 31, .ref 1]) (st := [.ref 49, .ref 1]) (x := m_X8_copyFrom) (as := [.ref 1, .ref 49]) (rest := []) rfl rfl rfl rfl h ?_
      intro I3 L3 h
      show dd_Rn (e + 16) m_X0_takeBack (40, [.ref 31, .ref 1], [], sM Ln I3 L3 c s) _
      exact dd_Rn.retK 1 (pc := 41) (ls := [.ref 31, .ref 1]) (st := [.int 1]) (M := sM Ln I3 L3 c s) (o := (none, .int 1, sM Ln I3 L3 c s)) rfl rfl h (by omega)
    have h := h.2
    rcases hs with hs | hs
    · have h := h.1 hs
      refine dd_Rn.aa 16 (c := 0 ≤ ((I 31 1) + ((I 31 2) - 1)) - ((I 31 1) + ((I 31 2) - 1)) / 12 * 12 ∧ tn (((I 31 1) + ((I 31 2) - 1)) - ((I 31 1) + ((I 31 2) - 1)) / 12 * 12) < 12) (n := tn (((I 31 1) + ((I 31 2) - 1)) - ((I 31 1) + ((I 31 2) - 1)) / 12 * 12)) (i := 3) (r := 56) (pc := 37) (ls := [.ref 31, .ref 1]) (st := [.ref 1]) (M := sM Ln (dd_u I 31 (upd (I 31) 2 ((I 31 2) - 1))) L c s) rfl hc hs rfl ?_ (by omega)
      show dd_Rn (e + 16) m_X0_takeBack (37, [.ref 31, .ref 1], [.ref 57, .ref 1], sM Ln (dd_u I 31 (upd (I 31) 2 ((I 31 2) - 1))) L c s) _
      refine dd_Rn.cV 0 (pc := 37) (ls := [.ref 31, .ref 1]) (st := [.ref 57, .ref 1]) (x := m_X8_copyFrom) (as := [.ref 1, .ref 57]) (rest := []) rfl rfl rfl rfl h ?_
      intro I4 L4 h
      show dd_Rn (e + 16) m_X0_takeBack (40, [.ref 31, .ref 1], [], sM Ln I4 L4 c s) _
      exact dd_Rn.retK 1 (pc := 41) (ls := [.ref 31, .ref 1]) (st := [.int 1]) (M := sM Ln I4 L4 c s) (o := (none, .int 1, sM Ln I4 L4 c s)) rfl rfl h (by omega)
    have h := h.2
    rcases hs with hs | hs
    · have h := h.1 hs
      refine dd_Rn.aa 16 (c := 0 ≤ ((I 31 1) + ((I 31 2) - 1)) - ((I 31 1) + ((I 31 2) - 1)) / 12 * 12 ∧ tn (((I 31 1) + ((I 31 2) - 1)) - ((I 31 1) + ((I 31 2) - 1)) / 12 * 12) < 12) (n := tn (((I 31 1) + ((I 31 2) - 1)) - ((I 31 1) + ((I 31 2) - 1)) / 12 * 12)) (i := 4) (r := 64) (pc := 37) (ls := [.ref 31, .ref 1]) (st := [.ref 1]) (M := sM Ln (dd_u I 31 (upd (I 31) 2 ((I 31 2) - 1))) L c s) rfl hc hs rfl ?_ (by omega)
      show dd_Rn (e + 16) m_X0_takeBack (37, [.ref 31, .ref 1], [.ref 65, .ref 1], sM Ln (dd_u I 31 (upd (I 31) 2 ((I 31 2) - 1))) L c s) _
      refine dd_Rn.cV 0 (pc := 37) (ls := [.ref 31, .ref 1]) (st := [.ref 65, .ref 1]) (x := m_X8_copyFrom) (as := [.ref 1, .ref 65]) (rest := []) rfl rfl rfl rfl h ?_
      intro I5 L5 h
      show dd_Rn (e + 16) m_X0_takeBack (40, [.ref 31, .ref 1], [], sM Ln I5 L5 c s) _
      exact dd_Rn.retK 1 (pc := 41) (ls := [.ref 31, .ref 1]) (st := [.int 1]) (M := sM Ln I5 L5 c s) (o := (none, .int 1, sM Ln I5 L5 c s)) rfl rfl h (by omega)
    have h := h.2
    rcases hs with hs | hs
    · have h := h.1 hs
      refine dd_Rn.aa 16 (c := 0 ≤ ((I 31 1) + ((I 31 2) - 1)) - ((I 31 1) + ((I 31 2) - 1)) / 12 * 12 ∧ tn (((I 31 1) + ((I 31 2) - 1)) - ((I 31 1) + ((I 31 2) - 1)) / 12 * 12) < 12) (n := tn (((I 31 1) + ((I 31 2) - 1)) - ((I 31 1) + ((I 31 2) - 1)) / 12 * 12)) (i := 5) (r := 72) (pc := 37) (ls := [.ref 31, .ref 1]) (st := [.ref 1]) (M := sM Ln (dd_u I 31 (upd (I 31) 2 ((I 31 2) - 1))) L c s) rfl hc hs rfl ?_ (by omega)
      show dd_Rn (e + 16) m_X0_takeBack (37, [.ref 31, .ref 1], [.ref 73, .ref 1], sM Ln (dd_u I 31 (upd (I 31) 2 ((I 31 2) - 1))) L c s) _
      refine dd_Rn.cV 0 (pc := 37) (ls := [.ref 31, .ref 1]) (st := [.ref 73, .ref 1]) (x := m_X8_copyFrom) (as := [.ref 1, .ref 73]) (rest := []) rfl rfl rfl rfl h ?_
      intro I6 L6 h
      show dd_Rn (e + 16) m_X0_takeBack (40, [.ref 31, .ref 1], [], sM Ln I6 L6 c s) _
      exact dd_Rn.retK 1 (pc := 41) (ls := [.ref 31, .ref 1]) (st := [.int 1]) (M := sM Ln I6 L6 c s) (o := (none, .int 1, sM Ln I6 L6 c s)) rfl rfl h (by omega)
    have h := h.2
    rcases hs with hs | hs
    · have h := h.1 hs
      refine dd_Rn.aa 16 (c := 0 ≤ ((I 31 1) + ((I 31 2) - 1)) - ((I 31 1) + ((I 31 2) - 1)) / 12 * 12 ∧ tn (((I 31 1) + ((I 31 2) - 1)) - ((I 31 1) + ((I 31 2) - 1)) / 12 * 12) < 12) (n := tn (((I 31 1) + ((I 31 2) - 1)) - ((I 31 1) + ((I 31 2) - 1)) / 12 * 12)) (i := 6) (r := 80) (pc := 37) (ls := [.ref 31, .ref 1]) (st := [.ref 1]) (M := sM Ln (dd_u I 31 (upd (I 31) 2 ((I 31 2) - 1))) L c s) rfl hc hs rfl ?_ (by omega)
      show dd_Rn (e + 16) m_X0_takeBack (37, [.ref 31, .ref 1], [.ref 81, .ref 1], sM Ln (dd_u I 31 (upd (I 31) 2 ((I 31 2) - 1))) L c s) _
      refine dd_Rn.cV 0 (pc := 37) (ls := [.ref 31, .ref 1]) (st := [.ref 81, .ref 1]) (x := m_X8_copyFrom) (as := [.ref 1, .ref 81]) (rest := []) rfl rfl rfl rfl h ?_
      intro I7 L7 h
      show dd_Rn (e + 16) m_X0_takeBack (40, [.ref 31, .ref 1], [], sM Ln I7 L7 c s) _
      exact dd_Rn.retK 1 (pc := 41) (ls := [.ref 31, .ref 1]) (st := [.int 1]) (M := sM Ln I7 L7 c s) (o := (none, .int 1, sM Ln I7 L7 c s)) rfl rfl h (by omega)
    have h := h.2
    rcases hs with hs | hs
    · have h := h.1 hs
      refine dd_Rn.aa 16 (c := 0 ≤ ((I 31 1) + ((I 31 2) - 1)) - ((I 31 1) + ((I 31 2) - 1)) / 12 * 12 ∧ tn (((I 31 1) + ((I 31 2) - 1)) - ((I 31 1) + ((I 31 2) - 1)) / 12 * 12) < 12) (n := tn (((I 31 1) + ((I 31 2) - 1)) - ((I 31 1) + ((I 31 2) - 1)) / 12 * 12)) (i := 7) (r := 88) (pc := 37) (ls := [.ref 31, .ref 1]) (st := [.ref 1]) (M := sM Ln (dd_u I 31 (upd (I 31) 2 ((I 31 2) - 1))) L c s) rfl hc hs rfl ?_ (by omega)
      show dd_Rn (e + 16) m_X0_takeBack (37, [.ref 31, .ref 1], [.ref 89, .ref 1], sM Ln (dd_u I 31 (upd (I 31) 2 ((I 31 2) - 1))) L c s) _
      refine dd_Rn.cV 0 (pc := 37) (ls := [.ref 31, .ref 1]) (st := [.ref 89, .ref 1]) (x := m_X8_copyFrom) (as := [.ref 1, .ref 89]) (rest := []) rfl rfl rfl rfl h ?_
      intro I8 L8 h
      show dd_Rn (e + 16) m_X0_takeBack (40, [.ref 31, .ref 1], [], sM Ln I8 L8 c s) _
      exact dd_Rn.retK 1 (pc := 41) (ls := [.ref 31, .ref 1]) (st := [.int 1]) (M := sM Ln I8 L8 c s) (o := (none, .int 1, sM Ln I8 L8 c s)) rfl rfl h (by omega)
    have h := h.2
    rcases hs with hs | hs
    · have h := h.1 hs
      refine dd_Rn.aa 16 (c := 0 ≤ ((I 31 1) + ((I 31 2) - 1)) - ((I 31 1) + ((I 31 2) - 1)) / 12 * 12 ∧ tn (((I 31 1) + ((I 31 2) - 1)) - ((I 31 1) + ((I 31 2) - 1)) / 12 * 12) < 12) (n := tn (((I 31 1) + ((I 31 2) - 1)) - ((I 31 1) + ((I 31 2) - 1)) / 12 * 12)) (i := 8) (r := 96) (pc := 37) (ls := [.ref 31, .ref 1]) (st := [.ref 1]) (M := sM Ln (dd_u I 31 (upd (I 31) 2 ((I 31 2) - 1))) L c s) rfl hc hs rfl ?_ (by omega)
      show dd_Rn (e + 16) m_X0_takeBack (37, [.ref 31, .ref 1], [.ref 97, .ref 1], sM Ln (dd_u I 31 (upd (I 31) 2 ((I 31 2) - 1))) L c s) _
      refine dd_Rn.cV 0 (pc := 37) (ls := [.ref 31, .ref 1]) (st := [.ref 97, .ref 1]) (x := m_X8_copyFrom) (as := [.ref 1, .ref 97]) (rest := []) rfl rfl rfl rfl h ?_
      intro I9 L9 h
      show dd_Rn (e + 16) m_X0_takeBack (40, [.ref 31, .ref 1], [], sM Ln I9 L9 c s) _
      exact dd_Rn.retK 1 (pc := 41) (ls := [.ref 31, .ref 1]) (st := [.int 1]) (M := sM Ln I9 L9 c s) (o := (none, .int 1, sM Ln I9 L9 c s)) rfl rfl h (by omega)
    have h := h.2
    rcases hs with hs | hs
    · have h := h.1 hs
      refine dd_Rn.aa 16 (c := 0 ≤ ((I 31 1) + ((I 31 2) - 1)) - ((I 31 1) + ((I 31 2) - 1)) / 12 * 12 ∧ tn (((I 31 1) + ((I 31 2) - 1)) - ((I 31 1) + ((I 31 2) - 1)) / 12 * 12) < 12) (n := tn (((I 31 1) + ((I 31 2) - 1)) - ((I 31 1) + ((I 31 2) - 1)) / 12 * 12)) (i := 9) (r := 104) (pc := 37) (ls := [.ref 31, .ref 1]) (st := [.ref 1]) (M := sM Ln (dd_u I 31 (upd (I 31) 2 ((I 31 2) - 1))) L c s) rfl hc hs rfl ?_ (by omega)
      show dd_Rn (e + 16) m_X0_takeBack (37, [.ref 31, .ref 1], [.ref 105, .ref 1], sM Ln (dd_u I 31 (upd (I 31) 2 ((I 31 2) - 1))) L c s) _
      refine dd_Rn.cV 0 (pc := 37) (ls := [.ref 31, .ref 1]) (st := [.ref 105, .ref 1]) (x := m_X8_copyFrom) (as := [.ref 1, .ref 105]) (rest := []) rfl rfl rfl rfl h ?_
      intro I10 L10 h
      show dd_Rn (e + 16) m_X0_takeBack (40, [.ref 31, .ref 1], [], sM Ln I10 L10 c s) _
      exact dd_Rn.retK 1 (pc := 41) (ls := [.ref 31, .ref 1]) (st := [.int 1]) (M := sM Ln I10 L10 c s) (o := (none, .int 1, sM Ln I10 L10 c s)) rfl rfl h (by omega)
    have h := h.2
    rcases hs with hs | hs
    · have h := h.1 hs
      refine dd_Rn.aa 16 (c := 0 ≤ ((I 31 1) + ((I 31 2) - 1)) - ((I 31 1) + ((I 31 2) - 1)) / 12 * 12 ∧ tn (((I 31 1) + ((I 31 2) - 1)) - ((I 31 1) + ((I 31 2) - 1)) / 12 * 12) < 12) (n := tn (((I 31 1) + ((I 31 2) - 1)) - ((I 31 1) + ((I 31 2) - 1)) / 12 * 12)) (i := 10) (r := 112) (pc := 37) (ls := [.ref 31, .ref 1]) (st := [.ref 1]) (M := sM Ln (dd_u I 31 (upd (I 31) 2 ((I 31 2) - 1))) L c s) rfl hc hs rfl ?_ (by omega)
      show dd_Rn (e + 16) m_X0_takeBack (37, [.ref 31, .ref 1], [.ref 113, .ref 1], sM Ln (dd_u I 31 (upd (I 31) 2 ((I 31 2) - 1))) L c s) _
      refine dd_Rn.cV 0 (pc := 37) (ls := [.ref 31, .ref 1]) (st := [.ref 113, .ref 1]) (x := m_X8_copyFrom) (as := [.ref 1, .ref 113]) (rest := []) rfl rfl rfl rfl h ?_
      intro I11 L11 h
      show dd_Rn (e + 16) m_X0_takeBack (40, [.ref 31, .ref 1], [], sM Ln I11 L11 c s) _
      exact dd_Rn.retK 1 (pc := 41) (ls := [.ref 31, .ref 1]) (st := [.int 1]) (M := sM Ln I11 L11 c s) (o := (none, .int 1, sM Ln I11 L11 c s)) rfl rfl h (by omega)
    have h := h.2
    · have h := h hs
      refine dd_Rn.aa 16 (c := 0 ≤ ((I 31 1) + ((I 31 2) - 1)) - ((I 31 1) + ((I 31 2) - 1)) / 12 * 12 ∧ tn (((I 31 1) + ((I 31 2) - 1)) - ((I 31 1) + ((I 31 2) - 1)) / 12 * 12) < 12) (n := tn (((I 31 1) + ((I 31 2) - 1)) - ((I 31 1) + ((I 31 2) - 1)) / 12 * 12)) (i := 11) (r := 120) (pc := 37) (ls := [.ref 31, .ref 1]) (st := [.ref 1]) (M := sM Ln (dd_u I 31 (upd (I 31) 2 ((I 31 2) - 1))) L c s) rfl hc hs rfl ?_ (by omega)
      show dd_Rn (e + 16) m_X0_takeBack (37, [.ref 31, .ref 1], [.ref 121, .ref 1], sM Ln (dd_u I 31 (upd (I 31) 2 ((I 31 2) - 1))) L c s) _
      refine dd_Rn.cV 0 (pc := 37) (ls := [.ref 31, .ref 1]) (st := [.ref 121, .ref 1]) (x := m_X8_copyFrom) (as := [.ref 1, .ref 121]) (rest := []) rfl rfl rfl rfl h ?_
      intro I12 L12 h
      show dd_Rn (e + 16) m_X0_takeBack (40, [.ref 31, .ref 1], [], sM Ln I12 L12 c s) _
      exact dd_Rn.retK 1 (pc := 41) (ls := [.ref 31, .ref 1]) (st := [.int 1]) (M := sM Ln I12 L12 c s) (o := (none, .int 1, sM Ln I12 L12 c s)) rfl rfl h (by omega)

theorem w_X2_copyFrom_0 {Ln d c s : Nat} {I : Nat → Nat → Int32} {L : Nat → Nat → Int64} {Q : dd_O → Prop} {k f : Nat} (hd : 28 ≤ d) (hk : (k = 25 ∧ f = 27) ∨ (k = 29 ∧ f = 25) ∨ (k = 25 ∧ f = 29)) (h : Q (none, .null, sM Ln (dd_u (dd_u (dd_u I (k + 1) (va_cpy (I (f + 1)) (I (k + 1)) 0 0 400)) k (upd (I k) 1 (I f 1))) k (upd (upd (I k) 1 (I f 1)) 2 (I f 2))) L c s)) : dd_Ev d m_X2_copyFrom [.ref k, .ref f] (sM Ln I L c s) Q := by
  obtain ⟨e, rfl⟩ : ∃ e, d = e + 16 := ⟨d - 16, by omega⟩
  show dd_Rn (e + 16) m_X2_copyFrom (0, [.ref k, .ref f], [], sM Ln I L c s) Q
  rcases hk with ⟨rfl, rfl⟩ | ⟨rfl, rfl⟩ | ⟨rfl, rfl⟩
  · exact dd_Rn.retK 18 (pc := 34) (ls := [.ref 25, .ref 27]) (st := []) (M := sM Ln (dd_u (dd_u (dd_u I (25 + 1) (va_cpy (I (27 + 1)) (I (25 + 1)) 0 0 400)) 25 (upd (I 25) 1 (I 27 1))) 25 (upd (upd (I 25) 1 (I 27 1)) 2 (I 27 2))) L c s) (o := (none, .null, sM Ln (dd_u (dd_u (dd_u I (25 + 1) (va_cpy (I (27 + 1)) (I (25 + 1)) 0 0 400)) 25 (upd (I 25) 1 (I 27 1))) 25 (upd (upd (I 25) 1 (I 27 1)) 2 (I 27 2))) L c s)) rfl rfl h (by omega)
  · exact dd_Rn.retK 18 (pc := 34) (ls := [.ref 29, .ref 25]) (st := []) (M := sM Ln (dd_u (dd_u (dd_u I (29 + 1) (va_cpy (I (25 + 1)) (I (29 + 1)) 0 0 400)) 29 (upd (I 29) 1 (I 25 1))) 29 (upd (upd (I 29) 1 (I 25 1)) 2 (I 25 2))) L c s) (o := (none, .null, sM Ln (dd_u (dd_u (dd_u I (29 + 1) (va_cpy (I (25 + 1)) (I (29 + 1)) 0 0 400)) 29 (upd (I 29) 1 (I 25 1))) 29 (upd (upd (I 29) 1 (I 25 1)) 2 (I 25 2))) L c s)) rfl rfl h (by omega)
  · exact dd_Rn.retK 18 (pc := 34) (ls := [.ref 25, .ref 29]) (st := []) (M := sM Ln (dd_u (dd_u (dd_u I (25 + 1) (va_cpy (I (29 + 1)) (I (25 + 1)) 0 0 400)) 25 (upd (I 25) 1 (I 29 1))) 25 (upd (upd (I 25) 1 (I 29 1)) 2 (I 29 2))) L c s) (o := (none, .null, sM Ln (dd_u (dd_u (dd_u I (25 + 1) (va_cpy (I (29 + 1)) (I (25 + 1)) 0 0 400)) 25 (upd (I 25) 1 (I 29 1))) 25 (upd (upd (I 25) 1 (I 29 1)) 2 (I 29 2))) L c s)) rfl rfl h (by omega)

theorem w_X2_add_0 {Ln d c s : Nat} {I : Nat → Nat → Int32} {L : Nat → Nat → Int64} {Q : dd_O → Prop} {a1 : Int32} (hd : 28 ≤ d) (h : (((400 : Int32) ≤ I 27 1 → Q (none, .null, sM Ln I L c s)) ∧ (¬ ((400 : Int32) ≤ I 27 1) → ((0 ≤ I 27 1 ∧ tn (I 27 1) < 400) ∧ Q (none, .null, sM Ln (dd_u (dd_u I 28 (upd (I 28) (tn (I 27 1)) a1)) 27 (upd (I 27) 1 ((I 27 1) + 1))) L c s))))) : dd_Ev d m_X2_add [.ref 27, .int a1] (sM Ln I L c s) Q := by
  obtain ⟨e, rfl⟩ : ∃ e, d = e + 16 := ⟨d - 16, by omega⟩
  show dd_Rn (e + 16) m_X2_add (0, [.ref 27, .int a1], [], sM Ln I L c s) Q
  refine dd_Rn.ite 5 (c := (400 : Int32) ≤ I 27 1) (A := (32, [.ref 27, .int a1], [], sM Ln I L c s)) (B := (12, [.ref 27, .int a1], [], sM Ln I L c s)) rfl (fun hc => ?_) (fun hc => ?_) (by omega)
  · have h := h.1 hc
    exact dd_Rn.retK 0 (pc := 32) (ls := [.ref 27, .int a1]) (st := []) (M := sM Ln I L c s) (o := (none, .null, sM Ln I L c s)) rfl rfl h (by omega)
  · have h := h.2 hc
    obtain ⟨hc, h⟩ := h
    refine dd_Rn.go 5 (cf' := (21, [.ref 27, .int a1], [.int a1, .int (I 27 1), .ref 28], sM Ln I L c s)) rfl ?_ (by omega)
    refine dd_Rn.ci (fun j0 => (21, [.ref 27, .int a1], [.int a1, .int j0, .ref 28], sM Ln I L c s)) (fun j0 => (22, [.ref 27, .int a1], [], sM Ln (dd_u I 28 (upd (I 28) (tn j0) a1)) L c s)) (fun j0 => 0 ≤ j0 ∧ tn j0 < 400) (I 27 1) (fun j0 hc h => dd_Rn.chk 0 (c := 0 ≤ j0 ∧ tn j0 < 400) (A := (22, [.ref 27, .int a1], [], sM Ln (dd_u I 28 (upd (I 28) (tn j0) a1)) L c s)) rfl hc h (by omega)) hc ?_
    refine dd_Rn.se (cf := (22, [.ref 27, .int a1], [], sM Ln (dd_u I 28 (upd (I 28) (tn (I 27 1)) a1)) L c s)) ?_
    exact dd_Rn.retK 6 (pc := 32) (ls := [.ref 27, .int a1]) (st := []) (M := sM Ln (dd_u (dd_u I 28 (upd (I 28) (tn (I 27 1)) a1)) 27 (upd (I 27) 1 ((I 27 1) + 1))) L c s) (o := (none, .null, sM Ln (dd_u (dd_u I 28 (upd (I 28) (tn (I 27 1)) a1)) 27 (upd (I 27) 1 ((I 27 1) + 1))) L c s)) rfl rfl h (by omega)

theorem w_X2_weigh_0 {Ln d c s : Nat} {I : Nat → Nat → Int32} {L : Nat → Nat → Int64} {Q : dd_O → Prop} {f : Nat} {a2 a3 : Int32} (hd : 28 ≤ d) (hk : f = 134 ∨ f = 137) (h : dd_Rn d m_X2_weigh (22, [.ref 25, .ref f, .int a2, .int a3, .int 0, .int 0, .int 0, .int 0, .null, .null], [], sM Ln (dd_u (dd_u I 25 (upd (I 25) 3 0)) 25 (upd (upd (I 25) 3 0) 4 0)) L c s) Q) : dd_Ev d m_X2_weigh [.ref 25, .ref f, .int a2, .int a3] (sM Ln I L c s) Q := by
  obtain ⟨e, rfl⟩ : ∃ e, d = e + 16 := ⟨d - 16, by omega⟩
  show dd_Rn (e + 16) m_X2_weigh (0, [.ref 25, .ref f, .int a2, .int a3, .null, .null, .null, .null, .null, .null], [], sM Ln I L c s) Q
  rcases hk with rfl | rfl
  · exact dd_Rn.go 14 (cf' := (22, [.ref 25, .ref 134, .int a2, .int a3, .int 0, .int 0, .int 0, .int 0, .null, .null], [], sM Ln (dd_u (dd_u I 25 (upd (I 25) 3 0)) 25 (upd (upd (I 25) 3 0) 4 0)) L c s)) rfl h (by omega)
  · exact dd_Rn.go 14 (cf' := (22, [.ref 25, .ref 137, .int a2, .int a3, .int 0, .int 0, .int 0, .int 0, .null, .null], [], sM Ln (dd_u (dd_u I 25 (upd (I 25) 3 0)) 25 (upd (upd (I 25) 3 0) 4 0)) L c s)) rfl h (by omega)

theorem w_X2_weigh_22 {Ln d c s : Nat} {I : Nat → Nat → Int32} {L : Nat → Nat → Int64} {Q : dd_O → Prop} {f : Nat} {a2 a3 a4 a5 a6 a7 : Int32} {a8 a9 : Value} (hd : 28 ≤ d) (hk : f = 134 ∨ f = 137) (h : ((I 25 1 ≤ a7 → Q (none, .null, sM Ln I L c s)) ∧ (¬ (I 25 1 ≤ a7) → ((0 ≤ a7 ∧ tn a7 < 400) ∧ dd_Rn d m_X2_weigh (40, [.ref 25, .ref f, .int a2, .int a3, .int a4, .int a5, .int a6, .int a7, .int (I 26 (tn a7)), a9], [], sM Ln I L c s) Q)))) : dd_Rn d m_X2_weigh (22, [.ref 25, .ref f, .int a2, .int a3, .int a4, .int a5, .int a6, .int a7, a8, a9], [], sM Ln I L c s) Q := by
  obtain ⟨e, rfl⟩ : ∃ e, d = e + 16 := ⟨d - 16, by omega⟩
  rcases hk with rfl | rfl
  · refine dd_Rn.ite 3 (c := I 25 1 ≤ a7) (A := (366, [.ref 25, .ref 134, .int a2, .int a3, .int a4, .int a5, .int a6, .int a7, a8, a9], [], sM Ln I L c s)) (B := (31, [.ref 25, .ref 134, .int a2, .int a3, .int a4, .int a5, .int a6, .int a7, a8, a9], [], sM Ln I L c s)) rfl (fun hc => ?_) (fun hc => ?_) (by omega)
    · have h := h.1 hc
      exact dd_Rn.retK 0 (pc := 366) (ls := [.ref 25, .ref 134, .int a2, .int a3, .int a4, .int a5, .int a6, .int a7, a8, a9]) (st := []) (M := sM Ln I L c s) (o := (none, .null, sM Ln I L c s)) rfl rfl h (by omega)
    · have h := h.2 hc
      obtain ⟨hc, h⟩ := h
      refine dd_Rn.chk 3 (c := 0 ≤ a7 ∧ tn a7 < 400) (A := (38, [.ref 25, .ref 134, .int a2, .int a3, .int a4, .int a5, .int a6, .int a7, a8, a9], [.int (I 26 (tn a7))], sM Ln I L c s)) rfl hc ?_ (by omega)
      exact dd_Rn.go 1 (cf' := (40, [.ref 25, .ref 134, .int a2, .int a3, .int a4, .int a5, .int a6, .int a7, .int (I 26 (tn a7)), a9], [], sM Ln I L c s)) rfl h (by omega)
  · refine dd_Rn.ite 3 (c := I 25 1 ≤ a7) (A := (366, [.ref 25, .ref 137, .int a2, .int a3, .int a4, .int a5, .int a6, .int a7, a8, a9], [], sM Ln I L c s)) (B := (31, [.ref 25, .ref 137, .int a2, .int a3, .int a4, .int a5, .int a6, .int a7, a8, a9], [], sM Ln I L c s)) rfl (fun hc => ?_) (fun hc => ?_) (by omega)
    · have h := h.1 hc
      exact dd_Rn.retK 0 (pc := 366) (ls := [.ref 25, .ref 137, .int a2, .int a3, .int a4, .int a5, .int a6, .int a7, a8, a9]) (st := []) (M := sM Ln I L c s) (o := (none, .null, sM Ln I L c s)) rfl rfl h (by omega)
    · have h := h.2 hc
      obtain ⟨hc, h⟩ := h
      refine dd_Rn.chk 3 (c := 0 ≤ a7 ∧ tn a7 < 400) (A := (38, [.ref 25, .ref 137, .int a2, .int a3, .int a4, .int a5, .int a6, .int a7, a8, a9], [.int (I 26 (tn a7))], sM Ln I L c s)) rfl hc ?_ (by omega)
      exact dd_Rn.go 1 (cf' := (40, [.ref 25, .ref 137, .int a2, .int a3, .int a4, .int a5, .int a6, .int a7, .int (I 26 (tn a7)), a9], [], sM Ln I L c s)) rfl h (by omega)

theorem w_X2_weigh_40 {Ln d c s : Nat} {I : Nat → Nat → Int32} {L : Nat → Nat → Int64} {Q : dd_O → Prop} {f : Nat} {a2 a3 a4 a5 a6 a7 a8 : Int32} {a9 : Value} (hd : 28 ≤ d) (hk : f = 134 ∨ f = 137) (h : ((a8 < 1000 → dd_Rn d m_X2_weigh (98, [.ref 25, .ref f, .int a2, .int a3, .int a4, .int a5, .int a6, .int a7, .int a8, a9], [], sM Ln I L c s) Q) ∧ (¬ (a8 < 1000) → dd_Rn d m_X2_weigh (48, [.ref 25, .ref f, .int a2, .int a3, .int a4, .int a5, .int a6, .int a7, .int a8, a9], [], sM Ln I L c s) Q))) : dd_Rn d m_X2_weigh (40, [.ref 25, .ref f, .int a2, .int a3, .int a4, .int a5, .int a6, .int a7, .int a8, a9], [], sM Ln I L c s) Q := by
  obtain ⟨e, rfl⟩ : ∃ e, d = e + 16 := ⟨d - 16, by omega⟩
  rcases hk with rfl | rfl
  · refine dd_Rn.ite 2 (c := a8 < 1000) (A := (98, [.ref 25, .ref 134, .int a2, .int a3, .int a4, .int a5, .int a6, .int a7, .int a8, a9], [], sM Ln I L c s)) (B := (48, [.ref 25, .ref 134, .int a2, .int a3, .int a4, .int a5, .int a6, .int a7, .int a8, a9], [], sM Ln I L c s)) rfl (fun hc => ?_) (fun hc => ?_) (by omega)
    · have h := h.1 hc
      exact dd_Rn.go 0 (cf' := (98, [.ref 25, .ref 134, .int a2, .int a3, .int a4, .int a5, .int a6, .int a7, .int a8, a9], [], sM Ln I L c s)) rfl h (by omega)
    · have h := h.2 hc
      exact dd_Rn.go 0 (cf' := (48, [.ref 25, .ref 134, .int a2, .int a3, .int a4, .int a5, .int a6, .int a7, .int a8, a9], [], sM Ln I L c s)) rfl h (by omega)
  · refine dd_Rn.ite 2 (c := a8 < 1000) (A := (98, [.ref 25, .ref 137, .int a2, .int a3, .int a4, .int a5, .int a6, .int a7, .int a8, a9], [], sM Ln I L c s)) (B := (48, [.ref 25, .ref 137, .int a2, .int a3, .int a4, .int a5, .int a6, .int a7, .int a8, a9], [], sM Ln I L c s)) rfl (fun hc => ?_) (fun hc => ?_) (by omega)
    · have h := h.1 hc
      exact dd_Rn.go 0 (cf' := (98, [.ref 25, .ref 137, .int a2, .int a3, .int a4, .int a5, .int a6, .int a7, .int a8, a9], [], sM Ln I L c s)) rfl h (by omega)
    · have h := h.2 hc
      exact dd_Rn.go 0 (cf' := (48, [.ref 25, .ref 137, .int a2, .int a3, .int a4, .int a5, .int a6, .int a7, .int a8, a9], [], sM Ln I L c s)) rfl h (by omega)

theorem w_X2_weigh_48 {Ln d c s : Nat} {I : Nat → Nat → Int32} {L : Nat → Nat → Int64} {Q : dd_O → Prop} {f : Nat} {a2 a3 a4 a5 a6 a7 a8 : Int32} {a9 : Value} (hd : 28 ≤ d) (hk : f = 134 ∨ f = 137) (h : ((a8 < 1100 → ((a6 &&& 1 = 0 → dd_Rn d m_X2_weigh (22, [.ref 25, .ref f, .int a2, .int a3, .int a4, .int a5, .int a6, .int (a7 + 1), .int a8, .int (a8 - 1000)], [], sM Ln (dd_u I 25 (upd (I 25) 3 ((I 25 3) + 0))) L c s) Q) ∧ (¬ (a6 &&& 1 = 0) → dd_Rn d m_X2_weigh (22, [.ref 25, .ref f, .int a2, .int a3, .int a4, .int a5, .int a6, .int (a7 + 1), .int a8, .int (a8 - 1000)], [], sM Ln (dd_u I 25 (upd (I 25) 3 ((I 25 3) + (a8 - 1000)))) L c s) Q))) ∧ (¬ (a8 < 1100) → ((a6 &&& 1 = 0 → dd_Rn d m_X2_weigh (22, [.ref 25, .ref f, .int a2, .int a3, .int a4, .int a5, .int a6, .int (a7 + 1), .int a8, .int ((1100 : Int32) - a8)], [], sM Ln (dd_u I 25 (upd (I 25) 3 ((I 25 3) + 0))) L c s) Q) ∧ (¬ (a6 &&& 1 = 0) → dd_Rn d m_X2_weigh (22, [.ref 25, .ref f, .int a2, .int a3, .int a4, .int a5, .int a6, .int (a7 + 1), .int a8, .int ((1100 : Int32) - a8)], [], sM Ln (dd_u I 25 (upd (I 25) 3 ((I 25 3) + ((1100 : Int32) - a8)))) L c s) Q))))) : dd_Rn d m_X2_weigh (48, [.ref 25, .ref f, .int a2, .int a3, .int a4, .int a5, .int a6, .int a7, .int a8, a9], [], sM Ln I L c s) Q := by
  obtain ⟨e, rfl⟩ : ∃ e, d = e + 16 := ⟨d - 16, by omega⟩
  rcases hk with rfl | rfl
  · refine dd_Rn.ite 2 (c := a8 < 1100) (A := (65, [.ref 25, .ref 134, .int a2, .int a3, .int a4, .int a5, .int a6, .int a7, .int a8, a9], [], sM Ln I L c s)) (B := (56, [.ref 25, .ref 134, .int a2, .int a3, .int a4, .int a5, .int a6, .int a7, .int a8, a9], [], sM Ln I L c s)) rfl (fun hc => ?_) (fun hc => ?_) (by omega)
    · have h := h.1 hc
      refine dd_Rn.ite 10 (c := a6 &&& 1 = 0) (A := (85, [.ref 25, .ref 134, .int a2, .int a3, .int a4, .int a5, .int a6, .int a7, .int a8, .int (a8 - 1000)], [.int (I 25 3), .ref 25], sM Ln I L c s)) (B := (89, [.ref 25, .ref 134, .int a2, .int a3, .int a4, .int a5, .int a6, .int a7, .int a8, .int (a8 - 1000)], [.int (I 25 3), .ref 25], sM Ln I L c s)) rfl (fun hc => ?_) (fun hc => ?_) (by omega)
      · have h := h.1 hc
        exact dd_Rn.go 7 (cf' := (22, [.ref 25, .ref 134, .int a2, .int a3, .int a4, .int a5, .int a6, .int (a7 + 1), .int a8, .int (a8 - 1000)], [], sM Ln (dd_u I 25 (upd (I 25) 3 ((I 25 3) + 0))) L c s)) rfl h (by omega)
      · have h := h.2 hc
        exact dd_Rn.go 6 (cf' := (22, [.ref 25, .ref 134, .int a2, .int a3, .int a4, .int a5, .int a6, .int (a7 + 1), .int a8, .int (a8 - 1000)], [], sM Ln (dd_u I 25 (upd (I 25) 3 ((I 25 3) + (a8 - 1000)))) L c s)) rfl h (by omega)
    · have h := h.2 hc
      refine dd_Rn.ite 11 (c := a6 &&& 1 = 0) (A := (85, [.ref 25, .ref 134, .int a2, .int a3, .int a4, .int a5, .int a6, .int a7, .int a8, .int ((1100 : Int32) - a8)], [.int (I 25 3), .ref 25], sM Ln I L c s)) (B := (89, [.ref 25, .ref 134, .int a2, .int a3, .int a4, .int a5, .int a6, .int a7, .int a8, .int ((1100 : Int32) - a8)], [.int (I 25 3), .ref 25], sM Ln I L c s)) rfl (fun hc => ?_) (fun hc => ?_) (by omega)
      · have h := h.1 hc
        exact dd_Rn.go 7 (cf' := (22, [.ref 25, .ref 134, .int a2, .int a3, .int a4, .int a5, .int a6, .int (a7 + 1), .int a8, .int ((1100 : Int32) - a8)], [], sM Ln (dd_u I 25 (upd (I 25) 3 ((I 25 3) + 0))) L c s)) rfl h (by omega)
      · have h := h.2 hc
        exact dd_Rn.go 6 (cf' := (22, [.ref 25, .ref 134, .int a2, .int a3, .int a4, .int a5, .int a6, .int (a7 + 1), .int a8, .int ((1100 : Int32) - a8)], [], sM Ln (dd_u I 25 (upd (I 25) 3 ((I 25 3) + ((1100 : Int32) - a8)))) L c s)) rfl h (by omega)
  · refine dd_Rn.ite 2 (c := a8 < 1100) (A := (65, [.ref 25, .ref 137, .int a2, .int a3, .int a4, .int a5, .int a6, .int a7, .int a8, a9], [], sM Ln I L c s)) (B := (56, [.ref 25, .ref 137, .int a2, .int a3, .int a4, .int a5, .int a6, .int a7, .int a8, a9], [], sM Ln I L c s)) rfl (fun hc => ?_) (fun hc => ?_) (by omega)
    · have h := h.1 hc
      refine dd_Rn.ite 10 (c := a6 &&& 1 = 0) (A := (85, [.ref 25, .ref 137, .int a2, .int a3, .int a4, .int a5, .int a6, .int a7, .int a8, .int (a8 - 1000)], [.int (I 25 3), .ref 25], sM Ln I L c s)) (B := (89, [.ref 25, .ref 137, .int a2, .int a3, .int a4, .int a5, .int a6, .int a7, .int a8, .int (a8 - 1000)], [.int (I 25 3), .ref 25], sM Ln I L c s)) rfl (fun hc => ?_) (fun hc => ?_) (by omega)
      · have h := h.1 hc
        exact dd_Rn.go 7 (cf' := (22, [.ref 25, .ref 137, .int a2, .int a3, .int a4, .int a5, .int a6, .int (a7 + 1), .int a8, .int (a8 - 1000)], [], sM Ln (dd_u I 25 (upd (I 25) 3 ((I 25 3) + 0))) L c s)) rfl h (by omega)
      · have h := h.2 hc
        exact dd_Rn.go 6 (cf' := (22, [.ref 25, .ref 137, .int a2, .int a3, .int a4, .int a5, .int a6, .int (a7 + 1), .int a8, .int (a8 - 1000)], [], sM Ln (dd_u I 25 (upd (I 25) 3 ((I 25 3) + (a8 - 1000)))) L c s)) rfl h (by omega)
    · have h := h.2 hc
      refine dd_Rn.ite 11 (c := a6 &&& 1 = 0) (A := (85, [.ref 25, .ref 137, .int a2, .int a3, .int a4, .int a5, .int a6, .int a7, .int a8, .int ((1100 : Int32) - a8)], [.int (I 25 3), .ref 25], sM Ln I L c s)) (B := (89, [.ref 25, .ref 137, .int a2, .int a3, .int a4, .int a5, .int a6, .int a7, .int a8, .int ((1100 : Int32) - a8)], [.int (I 25 3), .ref 25], sM Ln I L c s)) rfl (fun hc => ?_) (fun hc => ?_) (by omega)
      · have h := h.1 hc
        exact dd_Rn.go 7 (cf' := (22, [.ref 25, .ref 137, .int a2, .int a3, .int a4, .int a5, .int a6, .int (a7 + 1), .int a8, .int ((1100 : Int32) - a8)], [], sM Ln (dd_u I 25 (upd (I 25) 3 ((I 25 3) + 0))) L c s)) rfl h (by omega)
      · have h := h.2 hc
        exact dd_Rn.go 6 (cf' := (22, [.ref 25, .ref 137, .int a2, .int a3, .int a4, .int a5, .int a6, .int (a7 + 1), .int a8, .int ((1100 : Int32) - a8)], [], sM Ln (dd_u I 25 (upd (I 25) 3 ((I 25 3) + ((1100 : Int32) - a8)))) L c s)) rfl h (by omega)

theorem w_X2_weigh_98 {Ln d c s : Nat} {I : Nat → Nat → Int32} {L : Nat → Nat → Int64} {Q : dd_O → Prop} {f : Nat} {a2 a3 a4 a5 a6 a7 a8 : Int32} {a9 : Value} (hd : 28 ≤ d) (hk : f = 134 ∨ f = 137) (h : ((a8 < 0 → dd_Rn d m_X2_weigh (113, [.ref 25, .ref f, .int a2, .int a3, .int a4, .int a5, .int a6, .int a7, .int a8, a9], [], sM Ln I L c s) Q) ∧ (¬ (a8 < 0) → dd_Rn d m_X2_weigh (22, [.ref 25, .ref f, .int a2, .int a3, .int (a4 + a8), .int a5, .int a6, .int (a7 + 1), .int a8, a9], [], sM Ln I L c s) Q))) : dd_Rn d m_X2_weigh (98, [.ref 25, .ref f, .int a2, .int a3, .int a4, .int a5, .int a6, .int a7, .int a8, a9], [], sM Ln I L c s) Q := by
  obtain ⟨e, rfl⟩ : ∃ e, d = e + 16 := ⟨d - 16, by omega⟩
  rcases hk with rfl | rfl
  · refine dd_Rn.ite 1 (c := a8 < 0) (A := (113, [.ref 25, .ref 134, .int a2, .int a3, .int a4, .int a5, .int a6, .int a7, .int a8, a9], [], sM Ln I L c s)) (B := (103, [.ref 25, .ref 134, .int a2, .int a3, .int a4, .int a5, .int a6, .int a7, .int a8, a9], [], sM Ln I L c s)) rfl (fun hc => ?_) (fun hc => ?_) (by omega)
    · have h := h.1 hc
      exact dd_Rn.go 0 (cf' := (113, [.ref 25, .ref 134, .int a2, .int a3, .int a4, .int a5, .int a6, .int a7, .int a8, a9], [], sM Ln I L c s)) rfl h (by omega)
    · have h := h.2 hc
      exact dd_Rn.go 7 (cf' := (22, [.ref 25, .ref 134, .int a2, .int a3, .int (a4 + a8), .int a5, .int a6, .int (a7 + 1), .int a8, a9], [], sM Ln I L c s)) rfl h (by omega)
  · refine dd_Rn.ite 1 (c := a8 < 0) (A := (113, [.ref 25, .ref 137, .int a2, .int a3, .int a4, .int a5, .int a6, .int a7, .int a8, a9], [], sM Ln I L c s)) (B := (103, [.ref 25, .ref 137, .int a2, .int a3, .int a4, .int a5, .int a6, .int a7, .int a8, a9], [], sM Ln I L c s)) rfl (fun hc => ?_) (fun hc => ?_) (by omega)
    · have h := h.1 hc
      exact dd_Rn.go 0 (cf' := (113, [.ref 25, .ref 137, .int a2, .int a3, .int a4, .int a5, .int a6, .int a7, .int a8, a9], [], sM Ln I L c s)) rfl h (by omega)
    · have h := h.2 hc
      exact dd_Rn.go 7 (cf' := (22, [.ref 25, .ref 137, .int a2, .int a3, .int (a4 + a8), .int a5, .int a6, .int (a7 + 1), .int a8, a9], [], sM Ln I L c s)) rfl h (by omega)

theorem w_X2_weigh_113 {Ln d c s : Nat} {I : Nat → Nat → Int32} {L : Nat → Nat → Int64} {Q : dd_O → Prop} {f : Nat} {a2 a3 a4 a5 a6 a7 a8 : Int32} {a9 : Value} (hd : 28 ≤ d) (hk : f = 134 ∨ f = 137) (h : (((-20 : Int32) < a8 → dd_Rn d m_X2_weigh (138, [.ref 25, .ref f, .int a2, .int a3, .int a4, .int a5, .int a6, .int a7, .int a8, a9], [], sM Ln I L c s) Q) ∧ (¬ ((-20 : Int32) < a8) → dd_Rn d m_X2_weigh (131, [.ref 25, .ref f, .int a2, .int a3, .int a4, .int a5, .int a6, .int a7, .int a8, a9], [.int (((-20 : Int32) - a8) &&& 7), .ref f, .int a4], sM Ln I L c s) Q))) : dd_Rn d m_X2_weigh (113, [.ref 25, .ref f, .int a2, .int a3, .int a4, .int a5, .int a6, .int a7, .int a8, a9], [], sM Ln I L c s) Q := by
  obtain ⟨e, rfl⟩ : ∃ e, d = e + 16 := ⟨d - 16, by omega⟩
  rcases hk with rfl | rfl
  · refine dd_Rn.ite 2 (c := (-20 : Int32) < a8) (A := (138, [.ref 25, .ref 134, .int a2, .int a3, .int a4, .int a5, .int a6, .int a7, .int a8, a9], [], sM Ln I L c s)) (B := (120, [.ref 25, .ref 134, .int a2, .int a3, .int a4, .int a5, .int a6, .int a7, .int a8, a9], [], sM Ln I L c s)) rfl (fun hc => ?_) (fun hc => ?_) (by omega)
    · have h := h.1 hc
      exact dd_Rn.go 0 (cf' := (138, [.ref 25, .ref 134, .int a2, .int a3, .int a4, .int a5, .int a6, .int a7, .int a8, a9], [], sM Ln I L c s)) rfl h (by omega)
    · have h := h.2 hc
      exact dd_Rn.go 7 (cf' := (131, [.ref 25, .ref 134, .int a2, .int a3, .int a4, .int a5, .int a6, .int a7, .int a8, a9], [.int (((-20 : Int32) - a8) &&& 7), .ref 134, .int a4], sM Ln I L c s)) rfl h (by omega)
  · refine dd_Rn.ite 2 (c := (-20 : Int32) < a8) (A := (138, [.ref 25, .ref 137, .int a2, .int a3, .int a4, .int a5, .int a6, .int a7, .int a8, a9], [], sM Ln I L c s)) (B := (120, [.ref 25, .ref 137, .int a2, .int a3, .int a4, .int a5, .int a6, .int a7, .int a8, a9], [], sM Ln I L c s)) rfl (fun hc => ?_) (fun hc => ?_) (by omega)
    · have h := h.1 hc
      exact dd_Rn.go 0 (cf' := (138, [.ref 25, .ref 137, .int a2, .int a3, .int a4, .int a5, .int a6, .int a7, .int a8, a9], [], sM Ln I L c s)) rfl h (by omega)
    · have h := h.2 hc
      exact dd_Rn.go 7 (cf' := (131, [.ref 25, .ref 137, .int a2, .int a3, .int a4, .int a5, .int a6, .int a7, .int a8, a9], [.int (((-20 : Int32) - a8) &&& 7), .ref 137, .int a4], sM Ln I L c s)) rfl h (by omega)

theorem w_X2_weigh_131 {Ln d c s : Nat} {I : Nat → Nat → Int32} {L : Nat → Nat → Int64} {Q : dd_O → Prop} {f : Nat} {a2 a3 a4 a5 a6 a7 a8 b0 b2 : Int32} {a9 : Value} (hd : 28 ≤ d) (hk : f = 134 ∨ f = 137) (h : ((0 ≤ b2 ∧ tn b2 < 8) ∧ dd_Rn d m_X2_weigh (22, [.ref 25, .ref f, .int a2, .int a3, .int (b0 + (I f (tn b2))), .int a5, .int a6, .int (a7 + 1), .int a8, a9], [], sM Ln I L c s) Q)) : dd_Rn d m_X2_weigh (131, [.ref 25, .ref f, .int a2, .int a3, .int a4, .int a5, .int a6, .int a7, .int a8, a9], [.int b2, .ref f, .int b0], sM Ln I L c s) Q := by
  obtain ⟨e, rfl⟩ : ∃ e, d = e + 16 := ⟨d - 16, by omega⟩
  rcases hk with rfl | rfl
  · obtain ⟨hc, h⟩ := h
    refine dd_Rn.chk 0 (c := 0 ≤ b2 ∧ tn b2 < 8) (A := (132, [.ref 25, .ref 134, .int a2, .int a3, .int a4, .int a5, .int a6, .int a7, .int a8, a9], [.int (I 134 (tn b2)), .int b0], sM Ln I L c s)) rfl hc ?_ (by omega)
    exact dd_Rn.go 5 (cf' := (22, [.ref 25, .ref 134, .int a2, .int a3, .int (b0 + (I 134 (tn b2))), .int a5, .int a6, .int (a7 + 1), .int a8, a9], [], sM Ln I L c s)) rfl h (by omega)
  · obtain ⟨hc, h⟩ := h
    refine dd_Rn.chk 0 (c := 0 ≤ b2 ∧ tn b2 < 8) (A := (132, [.ref 25, .ref 137, .int a2, .int a3, .int a4, .int a5, .int a6, .int a7, .int a8, a9], [.int (I 137 (tn b2)), .int b0], sM Ln I L c s)) rfl hc ?_ (by omega)
    exact dd_Rn.go 5 (cf' := (22, [.ref 25, .ref 137, .int a2, .int a3, .int (b0 + (I 137 (tn b2))), .int a5, .int a6, .int (a7 + 1), .int a8, a9], [], sM Ln I L c s)) rfl h (by omega)

theorem w_X2_weigh_138 {Ln d c s : Nat} {I : Nat → Nat → Int32} {L : Nat → Nat → Int64} {Q : dd_O → Prop} {f : Nat} {a2 a3 a4 a5 a6 a7 a8 : Int32} {a9 : Value} (hd : 28 ≤ d) (hk : f = 134 ∨ f = 137) (h : ((a8 = (-7) → dd_Rn d m_X2_weigh (22, [.ref 25, .ref f, .int a2, .int a3, .int 0, .int a4, .int a6, .int (a7 + 1), .int a8, a9], [], sM Ln I L c s) Q) ∧ (¬ (a8 = (-7)) → ((a8 = (-8) → ((a8 = (-8) → ((a4 ≤ a5 → dd_Rn d m_X2_weigh (22, [.ref 25, .ref f, .int a2, .int a3, .int 0, .int a5, .int ((a6 <<< (1 &&& 31)) ||| (0 : Int32)), .int (a7 + 1), .int a8, .int 0], [], sM Ln I L c s) Q) ∧ (¬ (a4 ≤ a5) → dd_Rn d m_X2_weigh (22, [.ref 25, .ref f, .int a2, .int a3, .int 0, .int a5, .int ((a6 <<< (1 &&& 31)) ||| (1 : Int32)), .int (a7 + 1), .int a8, .int 1], [], sM Ln I L c s) Q))) ∧ (¬ (a8 = (-8)) → ((a5 ≤ a4 → dd_Rn d m_X2_weigh (22, [.ref 25, .ref f, .int a2, .int a3, .int 0, .int a5, .int ((a6 <<< (1 &&& 31)) ||| (0 : Int32)), .int (a7 + 1), .int a8, .int 0], [], sM Ln I L c s) Q) ∧ (¬ (a5 ≤ a4) → dd_Rn d m_X2_weigh (22, [.ref 25, .ref f, .int a2, .int a3, .int 0, .int a5, .int ((a6 <<< (1 &&& 31)) ||| (1 : Int32)), .int (a7 + 1), .int a8, .int 1], [], sM Ln I L c s) Q))))) ∧ (¬ (a8 = (-8)) → ((a8 = (-9) → ((a8 = (-8) → ((a4 ≤ a5 → dd_Rn d m_X2_weigh (22, [.ref 25, .ref f, .int a2, .int a3, .int 0, .int a5, .int ((a6 <<< (1 &&& 31)) ||| (0 : Int32)), .int (a7 + 1), .int a8, .int 0], [], sM Ln I L c s) Q) ∧ (¬ (a4 ≤ a5) → dd_Rn d m_X2_weigh (22, [.ref 25, .ref f, .int a2, .int a3, .int 0, .int a5, .int ((a6 <<< (1 &&& 31)) ||| (1 : Int32)), .int (a7 + 1), .int a8, .int 1], [], sM Ln I L c s) Q))) ∧ (¬ (a8 = (-8)) → ((a5 ≤ a4 → dd_Rn d m_X2_weigh (22, [.ref 25, .ref f, .int a2, .int a3, .int 0, .int a5, .int ((a6 <<< (1 &&& 31)) ||| (0 : Int32)), .int (a7 + 1), .int a8, .int 0], [], sM Ln I L c s) Q) ∧ (¬ (a5 ≤ a4) → dd_Rn d m_X2_weigh (22, [.ref 25, .ref f, .int a2, .int a3, .int 0, .int a5, .int ((a6 <<< (1 &&& 31)) ||| (1 : Int32)), .int (a7 + 1), .int a8, .int 1], [], sM Ln I L c s) Q))))) ∧ (¬ (a8 = (-9)) → dd_Rn d m_X2_weigh (228, [.ref 25, .ref f, .int a2, .int a3, .int a4, .int a5, .int a6, .int a7, .int a8, a9], [], sM Ln I L c s) Q))))))) : dd_Rn d m_X2_weigh (138, [.ref 25, .ref f, .int a2, .int a3, .int a4, .int a5, .int a6, .int a7, .int a8, a9], [], sM Ln I L c s) Q := by
  obtain ⟨e, rfl⟩ : ∃ e, d = e + 16 := ⟨d - 16, by omega⟩
  rcases hk with rfl | rfl
  · refine dd_Rn.ite 2 (c := a8 = (-7)) (A := (145, [.ref 25, .ref 134, .int a2, .int a3, .int a4, .int a5, .int a6, .int a7, .int a8, a9], [], sM Ln I L c s)) (B := (155, [.ref 25, .ref 134, .int a2, .int a3, .int a4, .int a5, .int a6, .int a7, .int a8, a9], [], sM Ln I L c s)) rfl (fun hc => ?_) (fun hc => ?_) (by omega)
    · have h := h.1 hc
      exact dd_Rn.go 7 (cf' := (22, [.ref 25, .ref 134, .int a2, .int a3, .int 0, .int a4, .int a6, .int (a7 + 1), .int a8, a9], [], sM Ln I L c s)) rfl h (by omega)
    · have h := h.2 hc
      refine dd_Rn.ite 2 (c := a8 = (-8)) (A := (169, [.ref 25, .ref 134, .int a2, .int a3, .int a4, .int a5, .int a6, .int a7, .int a8, a9], [], sM Ln I L c s)) (B := (162, [.ref 25, .ref 134, .int a2, .int a3, .int a4, .int a5, .int a6, .int a7, .int a8, a9], [], sM Ln I L c s)) rfl (fun hc => ?_) (fun hc => ?_) (by omega)
      · have h := h.1 hc
        refine dd_Rn.ite 2 (c := a8 = (-8)) (A := (176, [.ref 25, .ref 134, .int a2, .int a3, .int a4, .int a5, .int a6, .int a7, .int a8, a9], [], sM Ln I L c s)) (B := (191, [.ref 25, .ref 134, .int a2, .int a3, .int a4, .int a5, .int a6, .int a7, .int a8, a9], [], sM Ln I L c s)) rfl (fun hc => ?_) (fun hc => ?_) (by omega)
        · have h := h.1 hc
          refine dd_Rn.ite 2 (c := a4 ≤ a5) (A := (187, [.ref 25, .ref 134, .int a2, .int a3, .int a4, .int a5, .int a6, .int a7, .int a8, a9], [], sM Ln I L c s)) (B := (183, [.ref 25, .ref 134, .int a2, .int a3, .int a4, .int a5, .int a6, .int a7, .int a8, a9], [], sM Ln I L c s)) rfl (fun hc => ?_) (fun hc => ?_) (by omega)
          · have h := h.1 hc
            exact dd_Rn.go 16 (cf' := (22, [.ref 25, .ref 134, .int a2, .int a3, .int 0, .int a5, .int ((a6 <<< (1 &&& 31)) ||| (0 : Int32)), .int (a7 + 1), .int a8, .int 0], [], sM Ln I L c s)) rfl h (by omega)
          · have h := h.2 hc
            exact dd_Rn.go 17 (cf' := (22, [.ref 25, .ref 134, .int a2, .int a3, .int 0, .int a5, .int ((a6 <<< (1 &&& 31)) ||| (1 : Int32)), .int (a7 + 1), .int a8, .int 1], [], sM Ln I L c s)) rfl h (by omega)
        · have h := h.2 hc
          refine dd_Rn.ite 2 (c := a5 ≤ a4) (A := (202, [.ref 25, .ref 134, .int a2, .int a3, .int a4, .int a5, .int a6, .int a7, .int a8, a9], [], sM Ln I L c s)) (B := (198, [.ref 25, .ref 134, .int a2, .int a3, .int a4, .int a5, .int a6, .int a7, .int a8, a9], [], sM Ln I L c s)) rfl (fun hc => ?_) (fun hc => ?_) (by omega)
          · have h := h.1 hc
            exact dd_Rn.go 15 (cf' := (22, [.ref 25, .ref 134, .int a2, .int a3, .int 0, .int a5, .int ((a6 <<< (1 &&& 31)) ||| (0 : Int32)), .int (a7 + 1), .int a8, .int 0], [], sM Ln I L c s)) rfl h (by omega)
          · have h := h.2 hc
            exact dd_Rn.go 17 (cf' := (22, [.ref 25, .ref 134, .int a2, .int a3, .int 0, .int a5, .int ((a6 <<< (1 &&& 31)) ||| (1 : Int32)), .int (a7 + 1), .int a8, .int 1], [], sM Ln I L c s)) rfl h (by omega)
      · have h := h.2 hc
        refine dd_Rn.ite 2 (c := a8 = (-9)) (A := (169, [.ref 25, .ref 134, .int a2, .int a3, .int a4, .int a5, .int a6, .int a7, .int a8, a9], [], sM Ln I L c s)) (B := (228, [.ref 25, .ref 134, .int a2, .int a3, .int a4, .int a5, .int a6, .int a7, .int a8, a9], [], sM Ln I L c s)) rfl (fun hc => ?_) (fun hc => ?_) (by omega)
        · have h := h.1 hc
          refine dd_Rn.ite 2 (c := a8 = (-8)) (A := (176, [.ref 25, .ref 134, .int a2, .int a3, .int a4, .int a5, .int a6, .int a7, .int a8, a9], [], sM Ln I L c s)) (B := (191, [.ref 25, .ref 134, .int a2, .int a3, .int a4, .int a5, .int a6, .int a7, .int a8, a9], [], sM Ln I L c s)) rfl (fun hc => ?_) (fun hc => ?_) (by omega)
          · have h := h.1 hc
            refine dd_Rn.ite 2 (c := a4 ≤ a5) (A := (187, [.ref 25, .ref 134, .int a2, .int a3, .int a4, .int a5, .int a6, .int a7, .int a8, a9], [], sM Ln I L c s)) (B := (183, [.ref 25, .ref 134, .int a2, .int a3, .int a4, .int a5, .int a6, .int a7, .int a8, a9], [], sM Ln I L c s)) rfl (fun hc => ?_) (fun hc => ?_) (by omega)
            · have h := h.1 hc
              exact dd_Rn.go 16 (cf' := (22, [.ref 25, .ref 134, .int a2, .int a3, .int 0, .int a5, .int ((a6 <<< (1 &&& 31)) ||| (0 : Int32)), .int (a7 + 1), .int a8, .int 0], [], sM Ln I L c s)) rfl h (by omega)
            · have h := h.2 hc
              exact dd_Rn.go 17 (cf' := (22, [.ref 25, .ref 134, .int a2, .int a3, .int 0, .int a5, .int ((a6 <<< (1 &&& 31)) ||| (1 : Int32)), .int (a7 + 1), .int a8, .int 1], [], sM Ln I L c s)) rfl h (by omega)
          · have h := h.2 hc
            refine dd_Rn.ite 2 (c := a5 ≤ a4) (A := (202, [.ref 25, .ref 134, .int a2, .int a3, .int a4, .int a5, .int a6, .int a7, .int a8, a9], [], sM Ln I L c s)) (B := (198, [.ref 25, .ref 134, .int a2, .int a3, .int a4, .int a5, .int a6, .int a7, .int a8, a9], [], sM Ln I L c s)) rfl (fun hc => ?_) (fun hc => ?_) (by omega)
            · have h := h.1 hc
              exact dd_Rn.go 15 (cf' := (22, [.ref 25, .ref 134, .int a2, .int a3, .int 0, .int a5, .int ((a6 <<< (1 &&& 31)) ||| (0 : Int32)), .int (a7 + 1), .int a8, .int 0], [], sM Ln I L c s)) rfl h (by omega)
            · have h := h.2 hc
              exact dd_Rn.go 17 (cf' := (22, [.ref 25, .ref 134, .int a2, .int a3, .int 0, .int a5, .int ((a6 <<< (1 &&& 31)) ||| (1 : Int32)), .int (a7 + 1), .int a8, .int 1], [], sM Ln I L c s)) rfl h (by omega)
        · have h := h.2 hc
          exact dd_Rn.go 0 (cf' := (228, [.ref 25, .ref 134, .int a2, .int a3, .int a4, .int a5, .int a6, .int a7, .int a8, a9], [], sM Ln I L c s)) rfl h (by omega)
  · refine dd_Rn.ite 2 (c := a8 = (-7)) (A := (145, [.ref 25, .ref 137, .int a2, .int a3, .int a4, .int a5, .int a6, .int a7, .int a8, a9], [], sM Ln I L c s)) (B := (155, [.ref 25, .ref 137, .int a2, .int a3, .int a4, .int a5, .int a6, .int a7, .int a8, a9], [], sM Ln I L c s)) rfl (fun hc => ?_) (fun hc => ?_) (by omega)
    · have h := h.1 hc
      exact dd_Rn.go 7 (cf' := (22, [.ref 25, .ref 137, .int a2, .int a3, .int 0, .int a4, .int a6, .int (a7 + 1), .int a8, a9], [], sM Ln I L c s)) rfl h (by omega)
    · have h := h.2 hc
      refine dd_Rn.ite 2 (c := a8 = (-8)) (A := (169, [.ref 25, .ref 137, .int a2, .int a3, .int a4, .int a5, .int a6, .int a7, .int a8, a9], [], sM Ln I L c s)) (B := (162, [.ref 25, .ref 137, .int a2, .int a3, .int a4, .int a5, .int a6, .int a7, .int a8, a9], [], sM Ln I L c s)) rfl (fun hc => ?_) (fun hc => ?_) (by omega)
      · have h := h.1 hc
        refine dd_Rn.ite 2 (c := a8 = (-8)) (A := (176, [.ref 25, .ref 137, .int a2, .int a3, .int a4, .int a5, .int a6, .int a7, .int a8, a9], [], sM Ln I L c s)) (B := (191, [.ref 25, .ref 137, .int a2, .int a3, .int a4, .int a5, .int a6, .int a7, .int a8, a9], [], sM Ln I L c s)) rfl (fun hc => ?_) (fun hc => ?_) (by omega)
        · have h := h.1 hc
          refine dd_Rn.ite 2 (c := a4 ≤ a5) (A := (187, [.ref 25, .ref 137, .int a2, .int a3, .int a4, .int a5, .int a6, .int a7, .int a8, a9], [], sM Ln I L c s)) (B := (183, [.ref 25, .ref 137, .int a2, .int a3, .int a4, .int a5, .int a6, .int a7, .int a8, a9], [], sM Ln I L c s)) rfl (fun hc => ?_) (fun hc => ?_) (by omega)
          · have h := h.1 hc
            exact dd_Rn.go 16 (cf' := (22, [.ref 25, .ref 137, .int a2, .int a3, .int 0, .int a5, .int ((a6 <<< (1 &&& 31)) ||| (0 : Int32)), .int (a7 + 1), .int a8, .int 0], [], sM Ln I L c s)) rfl h (by omega)
          · have h := h.2 hc
            exact dd_Rn.go 17 (cf' := (22, [.ref 25, .ref 137, .int a2, .int a3, .int 0, .int a5, .int ((a6 <<< (1 &&& 31)) ||| (1 : Int32)), .int (a7 + 1), .int a8, .int 1], [], sM Ln I L c s)) rfl h (by omega)
        · have h := h.2 hc
          refine dd_Rn.ite 2 (c := a5 ≤ a4) (A := (202, [.ref 25, .ref 137, .int a2, .int a3, .int a4, .int a5, .int a6, .int a7, .int a8, a9], [], sM Ln I L c s)) (B := (198, [.ref 25, .ref 137, .int a2, .int a3, .int a4, .int a5, .int a6, .int a7, .int a8, a9], [], sM Ln I L c s)) rfl (fun hc => ?_) (fun hc => ?_) (by omega)
          · have h := h.1 hc
            exact dd_Rn.go 15 (cf' := (22, [.ref 25, .ref 137, .int a2, .int a3, .int 0, .int a5, .int ((a6 <<< (1 &&& 31)) ||| (0 : Int32)), .int (a7 + 1), .int a8, .int 0], [], sM Ln I L c s)) rfl h (by omega)
          · have h := h.2 hc
            exact dd_Rn.go 17 (cf' := (22, [.ref 25, .ref 137, .int a2, .int a3, .int 0, .int a5, .int ((a6 <<< (1 &&& 31)) ||| (1 : Int32)), .int (a7 + 1), .int a8, .int 1], [], sM Ln I L c s)) rfl h (by omega)
      · have h := h.2 hc
        refine dd_Rn.ite 2 (c := a8 = (-9)) (A := (169, [.ref 25, .ref 137, .int a2, .int a3, .int a4, .int a5, .int a6, .int a7, .int a8, a9], [], sM Ln I L c s)) (B := (228, [.ref 25, .ref 137, .int a2, .int a3, .int a4, .int a5, .int a6, .int a7, .int a8, a9], [], sM Ln I L c s)) rfl (fun hc => ?_) (fun hc => ?_) (by omega)
        · have h := h.1 hc
          refine dd_Rn.ite 2 (c := a8 = (-8)) (A := (176, [.ref 25, .ref 137, .int a2, .int a3, .int a4, .int a5, .int a6, .int a7, .int a8, a9], [], sM Ln I L c s)) (B := (191, [.ref 25, .ref 137, .int a2, .int a3, .int a4, .int a5, .int a6, .int a7, .int a8, a9], [], sM Ln I L c s)) rfl (fun hc => ?_) (fun hc => ?_) (by omega)
          · have h := h.1 hc
            refine dd_Rn.ite 2 (c := a4 ≤ a5) (A := (187, [.ref 25, .ref 137, .int a2, .int a3, .int a4, .int a5, .int a6, .int a7, .int a8, a9], [], sM Ln I L c s)) (B := (183, [.ref 25, .ref 137, .int a2, .int a3, .int a4, .int a5, .int a6, .int a7, .int a8, a9], [], sM Ln I L c s)) rfl (fun hc => ?_) (fun hc => ?_) (by omega)
            · have h := h.1 hc
              exact dd_Rn.go 16 (cf' := (22, [.ref 25, .ref 137, .int a2, .int a3, .int 0, .int a5, .int ((a6 <<< (1 &&& 31)) ||| (0 : Int32)), .int (a7 + 1), .int a8, .int 0], [], sM Ln I L c s)) rfl h (by omega)
            · have h := h.2 hc
              exact dd_Rn.go 17 (cf' := (22, [.ref 25, .ref 137, .int a2, .int a3, .int 0, .int a5, .int ((a6 <<< (1 &&& 31)) ||| (1 : Int32)), .int (a7 + 1), .int a8, .int 1], [], sM Ln I L c s)) rfl h (by omega)
          · have h := h.2 hc
            refine dd_Rn.ite 2 (c := a5 ≤ a4) (A := (202, [.ref 25, .ref 137, .int a2, .int a3, .int a4, .int a5, .int a6, .int a7, .int a8, a9], [], sM Ln I L c s)) (B := (198, [.ref 25, .ref 137, .int a2, .int a3, .int a4, .int a5, .int a6, .int a7, .int a8, a9], [], sM Ln I L c s)) rfl (fun hc => ?_) (fun hc => ?_) (by omega)
            · have h := h.1 hc
              exact dd_Rn.go 15 (cf' := (22, [.ref 25, .ref 137, .int a2, .int a3, .int 0, .int a5, .int ((a6 <<< (1 &&& 31)) ||| (0 : Int32)), .int (a7 + 1), .int a8, .int 0], [], sM Ln I L c s)) rfl h (by omega)
            · have h := h.2 hc
              exact dd_Rn.go 17 (cf' := (22, [.ref 25, .ref 137, .int a2, .int a3, .int 0, .int a5, .int ((a6 <<< (1 &&& 31)) ||| (1 : Int32)), .int (a7 + 1), .int a8, .int 1], [], sM Ln I L c s)) rfl h (by omega)
        · have h := h.2 hc
          exact dd_Rn.go 0 (cf' := (228, [.ref 25, .ref 137, .int a2, .int a3, .int a4, .int a5, .int a6, .int a7, .int a8, a9], [], sM Ln I L c s)) rfl h (by omega)

theorem w_X2_weigh_228 {Ln d c s : Nat} {I : Nat → Nat → Int32} {L : Nat → Nat → Int64} {Q : dd_O → Prop} {f : Nat} {a2 a3 a4 a5 a6 a7 a8 : Int32} {a9 : Value} (hd : 28 ≤ d) (hk : f = 134 ∨ f = 137) (h : ((a8 = (-4) → dd_Rn d m_X2_weigh (22, [.ref 25, .ref f, .int a2, .int a3, .int a4, .int a5, .int (a6 ^^^ 1), .int (a7 + 1), .int a8, a9], [], sM Ln I L c s) Q) ∧ (¬ (a8 = (-4)) → ((a8 = (-5) → dd_Rn d m_X2_weigh (22, [.ref 25, .ref f, .int a2, .int a3, .int a4, .int a5, .int (((a6.toUInt32 >>> ((1 : Int32).toUInt32 &&& Int32.toUInt32 31)).toInt32) &&& (a6 ||| (-2))), .int (a7 + 1), .int a8, a9], [], sM Ln I L c s) Q) ∧ (¬ (a8 = (-5)) → ((a8 = (-6) → dd_Rn d m_X2_weigh (22, [.ref 25, .ref f, .int a2, .int a3, .int a4, .int a5, .int (((a6.toUInt32 >>> ((1 : Int32).toUInt32 &&& Int32.toUInt32 31)).toInt32) ||| (a6 &&& 1)), .int (a7 + 1), .int a8, a9], [], sM Ln I L c s) Q) ∧ (¬ (a8 = (-6)) → ((a8 = (-10) → ((a6 &&& 1 = 0 → (((I 25 4) ||| 0 = 0 ∨ (I 25 4) ||| 0 = 1) ∧ dd_Rn d m_X2_weigh (22, [.ref 25, .ref f, .int a2, .int a3, .int a4, .int a5, .int a6, .int (a7 + 1), .int a8, a9], [], sM Ln (dd_u I 25 (upd (I 25) 4 ((I 25 4) ||| 0))) L c s) Q)) ∧ (¬ (a6 &&& 1 = 0) → (((I 25 4) ||| 1 = 0 ∨ (I 25 4) ||| 1 = 1) ∧ dd_Rn d m_X2_weigh (22, [.ref 25, .ref f, .int a2, .int a3, .int a4, .int a5, .int a6, .int (a7 + 1), .int a8, a9], [], sM Ln (dd_u I 25 (upd (I 25) 4 ((I 25 4) ||| 1))) L c s) Q)))) ∧ (¬ (a8 = (-10)) → dd_Rn d m_X2_weigh (318, [.ref 25, .ref f, .int a2, .int a3, .int a4, .int a5, .int a6, .int a7, .int a8, a9], [], sM Ln I L c s) Q))))))))) : dd_Rn d m_X2_weigh (228, [.ref 25, .ref f, .int a2, .int a3, .int a4, .int a5, .int a6, .int a7, .int a8, a9], [], sM Ln I L c s) Q := by
  obtain ⟨e, rfl⟩ : ∃ e, d = e + 16 := ⟨d - 16, by omega⟩
  rcases hk with rfl | rfl
  · refine dd_Rn.ite 2 (c := a8 = (-4)) (A := (235, [.ref 25, .ref 134, .int a2, .int a3, .int a4, .int a5, .int a6, .int a7, .int a8, a9], [], sM Ln I L c s)) (B := (244, [.ref 25, .ref 134, .int a2, .int a3, .int a4, .int a5, .int a6, .int a7, .int a8, a9], [], sM Ln I L c s)) rfl (fun hc => ?_) (fun hc => ?_) (by omega)
    · have h := h.1 hc
      exact dd_Rn.go 7 (cf' := (22, [.ref 25, .ref 134, .int a2, .int a3, .int a4, .int a5, .int (a6 ^^^ 1), .int (a7 + 1), .int a8, a9], [], sM Ln I L c s)) rfl h (by omega)
    · have h := h.2 hc
      refine dd_Rn.ite 2 (c := a8 = (-5)) (A := (251, [.ref 25, .ref 134, .int a2, .int a3, .int a4, .int a5, .int a6, .int a7, .int a8, a9], [], sM Ln I L c s)) (B := (266, [.ref 25, .ref 134, .int a2, .int a3, .int a4, .int a5, .int a6, .int a7, .int a8, a9], [], sM Ln I L c s)) rfl (fun hc => ?_) (fun hc => ?_) (by omega)
      · have h := h.1 hc
        exact dd_Rn.go 11 (cf' := (22, [.ref 25, .ref 134, .int a2, .int a3, .int a4, .int a5, .int (((a6.toUInt32 >>> ((1 : Int32).toUInt32 &&& Int32.toUInt32 31)).toInt32) &&& (a6 ||| (-2))), .int (a7 + 1), .int a8, a9], [], sM Ln I L c s)) rfl h (by omega)
      · have h := h.2 hc
        refine dd_Rn.ite 2 (c := a8 = (-6)) (A := (273, [.ref 25, .ref 134, .int a2, .int a3, .int a4, .int a5, .int a6, .int a7, .int a8, a9], [], sM Ln I L c s)) (B := (287, [.ref 25, .ref 134, .int a2, .int a3, .int a4, .int a5, .int a6, .int a7, .int a8, a9], [], sM Ln I L c s)) rfl (fun hc => ?_) (fun hc => ?_) (by omega)
        · have h := h.1 hc
          exact dd_Rn.go 11 (cf' := (22, [.ref 25, .ref 134, .int a2, .int a3, .int a4, .int a5, .int (((a6.toUInt32 >>> ((1 : Int32).toUInt32 &&& Int32.toUInt32 31)).toInt32) ||| (a6 &&& 1)), .int (a7 + 1), .int a8, a9], [], sM Ln I L c s)) rfl h (by omega)
        · have h := h.2 hc
          refine dd_Rn.ite 2 (c := a8 = (-10)) (A := (294, [.ref 25, .ref 134, .int a2, .int a3, .int a4, .int a5, .int a6, .int a7, .int a8, a9], [], sM Ln I L c s)) (B := (318, [.ref 25, .ref 134, .int a2, .int a3, .int a4, .int a5, .int a6, .int a7, .int a8, a9], [], sM Ln I L c s)) rfl (fun hc => ?_) (fun hc => ?_) (by omega)
          · have h := h.1 hc
            refine dd_Rn.ite 6 (c := a6 &&& 1 = 0) (A := (310, [.ref 25, .ref 134, .int a2, .int a3, .int a4, .int a5, .int a6, .int a7, .int a8, a9], [.int (I 25 4), .ref 25], sM Ln I L c s)) (B := (306, [.ref 25, .ref 134, .int a2, .int a3, .int a4, .int a5, .int a6, .int a7, .int a8, a9], [.int (I 25 4), .ref 25], sM Ln I L c s)) rfl (fun hc => ?_) (fun hc => ?_) (by omega)
            · have h := h.1 hc
              obtain ⟨hc, h⟩ := h
              refine dd_Rn.chk 2 (c := (I 25 4) ||| 0 = 0 ∨ (I 25 4) ||| 0 = 1) (A := (315, [.ref 25, .ref 134, .int a2, .int a3, .int a4, .int a5, .int a6, .int a7, .int a8, a9], [], sM Ln (dd_u I 25 (upd (I 25) 4 ((I 25 4) ||| 0))) L c s)) rfl hc ?_ (by omega)
              exact dd_Rn.go 3 (cf' := (22, [.ref 25, .ref 134, .int a2, .int a3, .int a4, .int a5, .int a6, .int (a7 + 1), .int a8, a9], [], sM Ln (dd_u I 25 (upd (I 25) 4 ((I 25 4) ||| 0))) L c s)) rfl h (by omega)
            · have h := h.2 hc
              obtain ⟨hc, h⟩ := h
              refine dd_Rn.chk 3 (c := (I 25 4) ||| 1 = 0 ∨ (I 25 4) ||| 1 = 1) (A := (315, [.ref 25, .ref 134, .int a2, .int a3, .int a4, .int a5, .int a6, .int a7, .int a8, a9], [], sM Ln (dd_u I 25 (upd (I 25) 4 ((I 25 4) ||| 1))) L c s)) rfl hc ?_ (by omega)
              exact dd_Rn.go 3 (cf' := (22, [.ref 25, .ref 134, .int a2, .int a3, .int a4, .int a5, .int a6, .int (a7 + 1), .int a8, a9], [], sM Ln (dd_u I 25 (upd (I 25) 4 ((I 25 4) ||| 1))) L c s)) rfl h (by omega)
          · have h := h.2 hc
            exact dd_Rn.go 0 (cf' := (318, [.ref 25, .ref 134, .int a2, .int a3, .int a4, .int a5, .int a6, .int a7, .int a8, a9], [], sM Ln I L c s)) rfl h (by omega)
  · refine dd_Rn.ite 2 (c := a8 = (-4)) (A := (235, [.ref 25, .ref 137, .int a2, .int a3, .int a4, .int a5, .int a6, .int a7, .int a8, a9], [], sM Ln I L c s)) (B := (244, [.ref 25, .ref 137, .int a2, .int a3, .int a4, .int a5, .int a6, .int a7, .int a8, a9], [], sM Ln I L c s)) rfl (fun hc => ?_) (fun hc => ?_) (by omega)
    · have h := h.1 hc
      exact dd_Rn.go 7 (cf' := (22, [.ref 25, .ref 137, .int a2, .int a3, .int a4, .int a5, .int (a6 ^^^ 1), .int (a7 + 1), .int a8, a9], [], sM Ln I L c s)) rfl h (by omega)
    · have h := h.2 hc
      refine dd_Rn.ite 2 (c := a8 = (-5)) (A := (251, [.ref 25, .ref 137, .int a2, .int a3, .int a4, .int a5, .int a6, .int a7, .int a8, a9], [], sM Ln I L c s)) (B := (266, [.ref 25, .ref 137, .int a2, .int a3, .int a4, .int a5, .int a6, .int a7, .int a8, a9], [], sM Ln I L c s)) rfl (fun hc => ?_) (fun hc => ?_) (by omega)
      · have h := h.1 hc
        exact dd_Rn.go 11 (cf' := (22, [.ref 25, .ref 137, .int a2, .int a3, .int a4, .int a5, .int (((a6.toUInt32 >>> ((1 : Int32).toUInt32 &&& Int32.toUInt32 31)).toInt32) &&& (a6 ||| (-2))), .int (a7 + 1), .int a8, a9], [], sM Ln I L c s)) rfl h (by omega)
      · have h := h.2 hc
        refine dd_Rn.ite 2 (c := a8 = (-6)) (A := (273, [.ref 25, .ref 137, .int a2, .int a3, .int a4, .int a5, .int a6, .int a7, .int a8, a9], [], sM Ln I L c s)) (B := (287, [.ref 25, .ref 137, .int a2, .int a3, .int a4, .int a5, .int a6, .int a7, .int a8, a9], [], sM Ln I L c s)) rfl (fun hc => ?_) (fun hc => ?_) (by omega)
        · have h := h.1 hc
          exact dd_Rn.go 11 (cf' := (22, [.ref 25, .ref 137, .int a2, .int a3, .int a4, .int a5, .int (((a6.toUInt32 >>> ((1 : Int32).toUInt32 &&& Int32.toUInt32 31)).toInt32) ||| (a6 &&& 1)), .int (a7 + 1), .int a8, a9], [], sM Ln I L c s)) rfl h (by omega)
        · have h := h.2 hc
          refine dd_Rn.ite 2 (c := a8 = (-10)) (A := (294, [.ref 25, .ref 137, .int a2, .int a3, .int a4, .int a5, .int a6, .int a7, .int a8, a9], [], sM Ln I L c s)) (B := (318, [.ref 25, .ref 137, .int a2, .int a3, .int a4, .int a5, .int a6, .int a7, .int a8, a9], [], sM Ln I L c s)) rfl (fun hc => ?_) (fun hc => ?_) (by omega)
          · have h := h.1 hc
            refine dd_Rn.ite 6 (c := a6 &&& 1 = 0) (A := (310, [.ref 25, .ref 137, .int a2, .int a3, .int a4, .int a5, .int a6, .int a7, .int a8, a9], [.int (I 25 4), .ref 25], sM Ln I L c s)) (B := (306, [.ref 25, .ref 137, .int a2, .int a3, .int a4, .int a5, .int a6, .int a7, .int a8, a9], [.int (I 25 4), .ref 25], sM Ln I L c s)) rfl (fun hc => ?_) (fun hc => ?_) (by omega)
            · have h := h.1 hc
              obtain ⟨hc, h⟩ := h
              refine dd_Rn.chk 2 (c := (I 25 4) ||| 0 = 0 ∨ (I 25 4) ||| 0 = 1) (A := (315, [.ref 25, .ref 137, .int a2, .int a3, .int a4, .int a5, .int a6, .int a7, .int a8, a9], [], sM Ln (dd_u I 25 (upd (I 25) 4 ((I 25 4) ||| 0))) L c s)) rfl hc ?_ (by omega)
              exact dd_Rn.go 3 (cf' := (22, [.ref 25, .ref 137, .int a2, .int a3, .int a4, .int a5, .int a6, .int (a7 + 1), .int a8, a9], [], sM Ln (dd_u I 25 (upd (I 25) 4 ((I 25 4) ||| 0))) L c s)) rfl h (by omega)
            · have h := h.2 hc
              obtain ⟨hc, h⟩ := h
              refine dd_Rn.chk 3 (c := (I 25 4) ||| 1 = 0 ∨ (I 25 4) ||| 1 = 1) (A := (315, [.ref 25, .ref 137, .int a2, .int a3, .int a4, .int a5, .int a6, .int a7, .int a8, a9], [], sM Ln (dd_u I 25 (upd (I 25) 4 ((I 25 4) ||| 1))) L c s)) rfl hc ?_ (by omega)
              exact dd_Rn.go 3 (cf' := (22, [.ref 25, .ref 137, .int a2, .int a3, .int a4, .int a5, .int a6, .int (a7 + 1), .int a8, a9], [], sM Ln (dd_u I 25 (upd (I 25) 4 ((I 25 4) ||| 1))) L c s)) rfl h (by omega)
          · have h := h.2 hc
            exact dd_Rn.go 0 (cf' := (318, [.ref 25, .ref 137, .int a2, .int a3, .int a4, .int a5, .int a6, .int a7, .int a8, a9], [], sM Ln I L c s)) rfl h (by omega)

theorem w_X2_weigh_318 {Ln d c s : Nat} {I : Nat → Nat → Int32} {L : Nat → Nat → Int64} {Q : dd_O → Prop} {f : Nat} {a2 a3 a4 a5 a6 a7 a8 : Int32} {a9 : Value} (hd : 28 ≤ d) (hk : f = 134 ∨ f = 137) (h : ((a8 = (-2) → ((a2 = 0 → dd_Rn d m_X2_weigh (22, [.ref 25, .ref f, .int a2, .int a3, .int a4, .int a5, .int ((a6 <<< (1 &&& 31)) ||| (0 : Int32)), .int (a7 + 1), .int a8, .int a2], [], sM Ln I L c s) Q) ∧ (¬ (a2 = 0) → dd_Rn d m_X2_weigh (22, [.ref 25, .ref f, .int a2, .int a3, .int a4, .int a5, .int ((a6 <<< (1 &&& 31)) ||| (1 : Int32)), .int (a7 + 1), .int a8, .int a2], [], sM Ln I L c s) Q))) ∧ (¬ (a8 = (-2)) → ((a8 = (-3) → ((a3 = 0 → dd_Rn d m_X2_weigh (22, [.ref 25, .ref f, .int a2, .int a3, .int a4, .int a5, .int ((a6 <<< (1 &&& 31)) ||| (0 : Int32)), .int (a7 + 1), .int a8, .int a3], [], sM Ln I L c s) Q) ∧ (¬ (a3 = 0) → dd_Rn d m_X2_weigh (22, [.ref 25, .ref f, .int a2, .int a3, .int a4, .int a5, .int ((a6 <<< (1 &&& 31)) ||| (1 : Int32)), .int (a7 + 1), .int a8, .int a3], [], sM Ln I L c s) Q))) ∧ (¬ (a8 = (-3)) → dd_Rn d m_X2_weigh (22, [.ref 25, .ref f, .int a2, .int a3, .int a4, .int a5, .int ((a6 <<< (1 &&& 31)) ||| (1 : Int32)), .int (a7 + 1), .int a8, .int 1], [], sM Ln I L c s) Q))))) : dd_Rn d m_X2_weigh (318, [.ref 25, .ref f, .int a2, .int a3, .int a4, .int a5, .int a6, .int a7, .int a8, a9], [], sM Ln I L c s) Q := by
  obtain ⟨e, rfl⟩ : ∃ e, d = e + 16 := ⟨d - 16, by omega⟩
  rcases hk with rfl | rfl
  · refine dd_Rn.ite 2 (c := a8 = (-2)) (A := (325, [.ref 25, .ref 134, .int a2, .int a3, .int a4, .int a5, .int a6, .int a7, .int a8, a9], [], sM Ln I L c s)) (B := (329, [.ref 25, .ref 134, .int a2, .int a3, .int a4, .int a5, .int a6, .int a7, .int a8, a9], [], sM Ln I L c s)) rfl (fun hc => ?_) (fun hc => ?_) (by omega)
    · have h := h.1 hc
      refine dd_Rn.ite 7 (c := a2 = 0) (A := (356, [.ref 25, .ref 134, .int a2, .int a3, .int a4, .int a5, .int a6, .int a7, .int a8, .int a2], [.int (a6 <<< (1 &&& 31))], sM Ln I L c s)) (B := (352, [.ref 25, .ref 134, .int a2, .int a3, .int a4, .int a5, .int a6, .int a7, .int a8, .int a2], [.int (a6 <<< (1 &&& 31))], sM Ln I L c s)) rfl (fun hc => ?_) (fun hc => ?_) (by omega)
      · have h := h.1 hc
        exact dd_Rn.go 5 (cf' := (22, [.ref 25, .ref 134, .int a2, .int a3, .int a4, .int a5, .int ((a6 <<< (1 &&& 31)) ||| (0 : Int32)), .int (a7 + 1), .int a8, .int a2], [], sM Ln I L c s)) rfl h (by omega)
      · have h := h.2 hc
        exact dd_Rn.go 6 (cf' := (22, [.ref 25, .ref 134, .int a2, .int a3, .int a4, .int a5, .int ((a6 <<< (1 &&& 31)) ||| (1 : Int32)), .int (a7 + 1), .int a8, .int a2], [], sM Ln I L c s)) rfl h (by omega)
    · have h := h.2 hc
      refine dd_Rn.ite 2 (c := a8 = (-3)) (A := (336, [.ref 25, .ref 134, .int a2, .int a3, .int a4, .int a5, .int a6, .int a7, .int a8, a9], [], sM Ln I L c s)) (B := (340, [.ref 25, .ref 134, .int a2, .int a3, .int a4, .int a5, .int a6, .int a7, .int a8, a9], [], sM Ln I L c s)) rfl (fun hc => ?_) (fun hc => ?_) (by omega)
      · have h := h.1 hc
        refine dd_Rn.ite 7 (c := a3 = 0) (A := (356, [.ref 25, .ref 134, .int a2, .int a3, .int a4, .int a5, .int a6, .int a7, .int a8, .int a3], [.int (a6 <<< (1 &&& 31))], sM Ln I L c s)) (B := (352, [.ref 25, .ref 134, .int a2, .int a3, .int a4, .int a5, .int a6, .int a7, .int a8, .int a3], [.int (a6 <<< (1 &&& 31))], sM Ln I L c s)) rfl (fun hc => ?_) (fun hc => ?_) (by omega)
        · have h := h.1 hc
          exact dd_Rn.go 5 (cf' := (22, [.ref 25, .ref 134, .int a2, .int a3, .int a4, .int a5, .int ((a6 <<< (1 &&& 31)) ||| (0 : Int32)), .int (a7 + 1), .int a8, .int a3], [], sM Ln I L c s)) rfl h (by omega)
        · have h := h.2 hc
          exact dd_Rn.go 6 (cf' := (22, [.ref 25, .ref 134, .int a2, .int a3, .int a4, .int a5, .int ((a6 <<< (1 &&& 31)) ||| (1 : Int32)), .int (a7 + 1), .int a8, .int a3], [], sM Ln I L c s)) rfl h (by omega)
      · have h := h.2 hc
        exact dd_Rn.go 13 (cf' := (22, [.ref 25, .ref 134, .int a2, .int a3, .int a4, .int a5, .int ((a6 <<< (1 &&& 31)) ||| (1 : Int32)), .int (a7 + 1), .int a8, .int 1], [], sM Ln I L c s)) rfl h (by omega)
  · refine dd_Rn.ite 2 (c := a8 = (-2)) (A := (325, [.ref 25, .ref 137, .int a2, .int a3, .int a4, .int a5, .int a6, .int a7, .int a8, a9], [], sM Ln I L c s)) (B := (329, [.ref 25, .ref 137, .int a2, .int a3, .int a4, .int a5, .int a6, .int a7, .int a8, a9], [], sM Ln I L c s)) rfl (fun hc => ?_) (fun hc => ?_) (by omega)
    · have h := h.1 hc
      refine dd_Rn.ite 7 (c := a2 = 0) (A := (356, [.ref 25, .ref 137, .int a2, .int a3, .int a4, .int a5, .int a6, .int a7, .int a8, .int a2], [.int (a6 <<< (1 &&& 31))], sM Ln I L c s)) (B := (352, [.ref 25, .ref 137, .int a2, .int a3, .int a4, .int a5, .int a6, .int a7, .int a8, .int a2], [.int (a6 <<< (1 &&& 31))], sM Ln I L c s)) rfl (fun hc => ?_) (fun hc => ?_) (by omega)
      · have h := h.1 hc
        exact dd_Rn.go 5 (cf' := (22, [.ref 25, .ref 137, .int a2, .int a3, .int a4, .int a5, .int ((a6 <<< (1 &&& 31)) ||| (0 : Int32)), .int (a7 + 1), .int a8, .int a2], [], sM Ln I L c s)) rfl h (by omega)
      · have h := h.2 hc
        exact dd_Rn.go 6 (cf' := (22, [.ref 25, .ref 137, .int a2, .int a3, .int a4, .int a5, .int ((a6 <<< (1 &&& 31)) ||| (1 : Int32)), .int (a7 + 1), .int a8, .int a2], [], sM Ln I L c s)) rfl h (by omega)
    · have h := h.2 hc
      refine dd_Rn.ite 2 (c := a8 = (-3)) (A := (336, [.ref 25, .ref 137, .int a2, .int a3, .int a4, .int a5, .int a6, .int a7, .int a8, a9], [], sM Ln I L c s)) (B := (340, [.ref 25, .ref 137, .int a2, .int a3, .int a4, .int a5, .int a6, .int a7, .int a8, a9], [], sM Ln I L c s)) rfl (fun hc => ?_) (fun hc => ?_) (by omega)
      · have h := h.1 hc
        refine dd_Rn.ite 7 (c := a3 = 0) (A := (356, [.ref 25, .ref 137, .int a2, .int a3, .int a4, .int a5, .int a6, .int a7, .int a8, .int a3], [.int (a6 <<< (1 &&& 31))], sM Ln I L c s)) (B := (352, [.ref 25, .ref 137, .int a2, .int a3, .int a4, .int a5, .int a6, .int a7, .int a8, .int a3], [.int (a6 <<< (1 &&& 31))], sM Ln I L c s)) rfl (fun hc => ?_) (fun hc => ?_) (by omega)
        · have h := h.1 hc
          exact dd_Rn.go 5 (cf' := (22, [.ref 25, .ref 137, .int a2, .int a3, .int a4, .int a5, .int ((a6 <<< (1 &&& 31)) ||| (0 : Int32)), .int (a7 + 1), .int a8, .int a3], [], sM Ln I L c s)) rfl h (by omega)
        · have h := h.2 hc
          exact dd_Rn.go 6 (cf' := (22, [.ref 25, .ref 137, .int a2, .int a3, .int a4, .int a5, .int ((a6 <<< (1 &&& 31)) ||| (1 : Int32)), .int (a7 + 1), .int a8, .int a3], [], sM Ln I L c s)) rfl h (by omega)
      · have h := h.2 hc
        exact dd_Rn.go 13 (cf' := (22, [.ref 25, .ref 137, .int a2, .int a3, .int a4, .int a5, .int ((a6 <<< (1 &&& 31)) ||| (1 : Int32)), .int (a7 + 1), .int a8, .int 1], [], sM Ln I L c s)) rfl h (by omega)

theorem w_X6_follow_0 {Ln d c s : Nat} {I : Nat → Nat → Int32} {L : Nat → Nat → Int64} {Q : dd_O → Prop} {k : Nat} {a1 : Int32} (hd : 28 ≤ d) (hk : k = 133 ∨ k = 136) (h : ((0 ≤ a1 ∧ tn a1 < 6) ∧ ((0 ≤ a1 ∧ tn a1 < 6) ∧ ((0 ≤ a1 ∧ tn a1 < 6) ∧ dd_Ev (d - 1) m_X6_become [.ref k, .int a1, .int (I 5 (tn a1)), .int (I 6 (tn a1)), .int (I 7 (tn a1))] (sM Ln I L c s) (dd_RV Ln c s (fun I1 L1 => ((0 ≤ a1 ∧ tn a1 < 6) ∧ dd_Ev (d - 1) m_X6_standAt [.ref k, .int (I1 4 (tn a1))] (sM Ln I1 L1 c s) (dd_RV Ln c s (fun I2 L2 => Q (none, .null, sM Ln I2 L2 c s)))))))))) : dd_Ev d m_X6_follow [.ref k, .int a1] (sM Ln I L c s) Q := by
  obtain ⟨e, rfl⟩ : ∃ e, d = e + 16 := ⟨d - 16, by omega⟩
  show dd_Rn (e + 16) m_X6_follow (0, [.ref k, .int a1], [], sM Ln I L c s) Q
  rcases hk with rfl | rfl
  · obtain ⟨hc, h⟩ := h
    refine dd_Rn.chk 6 (c := 0 ≤ a1 ∧ tn a1 < 6) (A := (11, [.ref 133, .int a1], [.int (I 5 (tn a1)), .int a1, .ref 133], sM Ln I L c s)) rfl hc ?_ (by omega)
    obtain ⟨hc, h⟩ := h
    refine dd_Rn.chk 4 (c := 0 ≤ a1 ∧ tn a1 < 6) (A := (20, [.ref 133, .int a1], [.int (I 6 (tn a1)), .int (I 5 (tn a1)), .int a1, .ref 133], sM Ln I L c s)) rfl hc ?_ (by omega)
    obtain ⟨hc, h⟩ := h
    refine dd_Rn.chk 4 (c := 0 ≤ a1 ∧ tn a1 < 6) (A := (29, [.ref 133, .int a1], [.int (I 7 (tn a1)), .int (I 6 (tn a1)), .int (I 5 (tn a1)), .int a1, .ref 133], sM Ln I L c s)) rfl hc ?_ (by omega)
    refine dd_Rn.cV 0 (pc := 29) (ls := [.ref 133, .int a1]) (st := [.int (I 7 (tn a1)), .int (I 6 (tn a1)), .int (I 5 (tn a1)), .int a1, .ref 133]) (x := m_X6_become) (as := [.ref 133, .int a1, .int (I 5 (tn a1)), .int (I 6 (tn a1)), .int (I 7 (tn a1))]) (rest := []) rfl rfl rfl rfl h ?_
    intro I1 L1 h
    show dd_Rn (e + 16) m_X6_follow (32, [.ref 133, .int a1], [], sM Ln I1 L1 c s) _
    obtain ⟨hc, h⟩ := h
    refine dd_Rn.chk 5 (c := 0 ≤ a1 ∧ tn a1 < 6) (A := (42, [.ref 133, .int a1], [.int (I1 4 (tn a1)), .ref 133], sM Ln I1 L1 c s)) rfl hc ?_ (by omega)
    refine dd_Rn.cV 0 (pc := 42) (ls := [.ref 133, .int a1]) (st := [.int (I1 4 (tn a1)), .ref 133]) (x := m_X6_standAt) (as := [.ref 133, .int (I1 4 (tn a1))]) (rest := []) rfl rfl rfl rfl h ?_
    intro I2 L2 h
    show dd_Rn (e + 16) m_X6_follow (45, [.ref 133, .int a1], [], sM Ln I2 L2 c s) _
    exact dd_Rn.retK 0 (pc := 45) (ls := [.ref 133, .int a1]) (st := []) (M := sM Ln I2 L2 c s) (o := (none, .null, sM Ln I2 L2 c s)) rfl rfl h (by omega)
  · obtain ⟨hc, h⟩ := h
    refine dd_Rn.chk 6 (c := 0 ≤ a1 ∧ tn a1 < 6) (A := (11, [.ref 136, .int a1], [.int (I 5 (tn a1)), .int a1, .ref 136], sM Ln I L c s)) rfl hc ?_ (by omega)
    obtain ⟨hc, h⟩ := h
    refine dd_Rn.chk 4 (c := 0 ≤ a1 ∧ tn a1 < 6) (A := (20, [.ref 136, .int a1], [.int (I 6 (tn a1)), .int (I 5 (tn a1)), .int a1, .ref 136], sM Ln I L c s)) rfl hc ?_ (by omega)
    obtain ⟨hc, h⟩ := h
    refine dd_Rn.chk 4 (c := 0 ≤ a1 ∧ tn a1 < 6) (A := (29, [.ref 136, .int a1], [.int (I 7 (tn a1)), .int (I 6 (tn a1)), .int (I 5 (tn a1)), .int a1, .ref 136], sM Ln I L c s)) rfl hc ?_ (by omega)
    refine dd_Rn.cV 0 (pc := 29) (ls := [.ref 136, .int a1]) (st := [.int (I 7 (tn a1)), .int (I 6 (tn a1)), .int (I 5 (tn a1)), .int a1, .ref 136]) (x := m_X6_become) (as := [.ref 136, .int a1, .int (I 5 (tn a1)), .int (I 6 (tn a1)), .int (I 7 (tn a1))]) (rest := []) rfl rfl rfl rfl h ?_
    intro I1 L1 h
    show dd_Rn (e + 16) m_X6_follow (32, [.ref 136, .int a1], [], sM Ln I1 L1 c s) _
    obtain ⟨hc, h⟩ := h
    refine dd_Rn.chk 5 (c := 0 ≤ a1 ∧ tn a1 < 6) (A := (42, [.ref 136, .int a1], [.int (I1 4 (tn a1)), .ref 136], sM Ln I1 L1 c s)) rfl hc ?_ (by omega)
    refine dd_Rn.cV 0 (pc := 42) (ls := [.ref 136, .int a1]) (st := [.int (I1 4 (tn a1)), .ref 136]) (x := m_X6_standAt) (as := [.ref 136, .int (I1 4 (tn a1))]) (rest := []) rfl rfl rfl rfl h ?_
    intro I2 L2 h
    show dd_Rn (e + 16) m_X6_follow (45, [.ref 136, .int a1], [], sM Ln I2 L2 c s) _
    exact dd_Rn.retK 0 (pc := 45) (ls := [.ref 136, .int a1]) (st := []) (M := sM Ln I2 L2 c s) (o := (none, .null, sM Ln I2 L2 c s)) rfl rfl h (by omega)

theorem w_X6_become_0 {Ln d c s : Nat} {I : Nat → Nat → Int32} {L : Nat → Nat → Int64} {Q : dd_O → Prop} {k : Nat} {a1 a2 a3 a4 : Int32} (hd : 28 ≤ d) (hk : k = 133 ∨ k = 136) (h : dd_Ev (d - 1) m_X6_takePart [.ref k, .int a2] (sM Ln (dd_u (dd_u (dd_u (dd_u (dd_u I (k + 1) (upd (I (k + 1)) 0 a1)) (k + 1) (upd (upd (I (k + 1)) 0 a1) 2 a3)) (k + 1) (upd (upd (upd (I (k + 1)) 0 a1) 2 a3) 6 a4)) (k + 1) (upd (upd (upd (upd (I (k + 1)) 0 a1) 2 a3) 6 a4) 7 (I 1 16))) k (upd (I k) 5 (I 1 14))) L c s) (dd_RV Ln c s (fun I1 L1 => Q (none, .null, sM Ln I1 L1 c s)))) : dd_Ev d m_X6_become [.ref k, .int a1, .int a2, .int a3, .int a4] (sM Ln I L c s) Q := by
  obtain ⟨e, rfl⟩ : ∃ e, d = e + 16 := ⟨d - 16, by omega⟩
  show dd_Rn (e + 16) m_X6_become (0, [.ref k, .int a1, .int a2, .int a3, .int a4], [], sM Ln I L c s) Q
  rcases hk with rfl | rfl
  · refine dd_Rn.cV 29 (pc := 50) (ls := [.ref 133, .int a1, .int a2, .int a3, .int a4]) (st := [.int a2, .ref 133]) (x := m_X6_takePart) (as := [.ref 133, .int a2]) (rest := []) rfl rfl rfl rfl h ?_
    intro I1 L1 h
    show dd_Rn (e + 16) m_X6_become (53, [.ref 133, .int a1, .int a2, .int a3, .int a4], [], sM Ln I1 L1 c s) _
    exact dd_Rn.retK 0 (pc := 53) (ls := [.ref 133, .int a1, .int a2, .int a3, .int a4]) (st := []) (M := sM Ln I1 L1 c s) (o := (none, .null, sM Ln I1 L1 c s)) rfl rfl h (by omega)
  · refine dd_Rn.cV 29 (pc := 50) (ls := [.ref 136, .int a1, .int a2, .int a3, .int a4]) (st := [.int a2, .ref 136]) (x := m_X6_takePart) (as := [.ref 136, .int a2]) (rest := []) rfl rfl rfl rfl h ?_
    intro I1 L1 h
    show dd_Rn (e + 16) m_X6_become (53, [.ref 136, .int a1, .int a2, .int a3, .int a4], [], sM Ln I1 L1 c s) _
    exact dd_Rn.retK 0 (pc := 53) (ls := [.ref 136, .int a1, .int a2, .int a3, .int a4]) (st := []) (M := sM Ln I1 L1 c s) (o := (none, .null, sM Ln I1 L1 c s)) rfl rfl h (by omega)

theorem w_X6_takePart_0 {Ln d c s : Nat} {I : Nat → Nat → Int32} {L : Nat → Nat → Int64} {Q : dd_O → Prop} {k : Nat} {a1 : Int32} (hd : 28 ≤ d) (hk : k = 133 ∨ k = 136) (h : ((0 ≤ a1 * 8 ∧ 0 ≤ (0 : Int32) ∧ 0 ≤ (8 : Int32) ∧ tn (a1 * 8) + tn 8 ≤ 48 ∧ tn 0 + tn 8 ≤ 8) ∧ Q (none, .null, sM Ln (dd_u (dd_u I (k + 1) (upd (I (k + 1)) 1 a1)) (k + 2) (va_cpy (I 3) (I (k + 2)) (tn (a1 * 8)) 0 8)) L c s))) : dd_Ev d m_X6_takePart [.ref k, .int a1] (sM Ln I L c s) Q := by
  obtain ⟨e, rfl⟩ : ∃ e, d = e + 16 := ⟨d - 16, by omega⟩
  show dd_Rn (e + 16) m_X6_takePart (0, [.ref k, .int a1], [], sM Ln I L c s) Q
  rcases hk with rfl | rfl
  · obtain ⟨hc, h⟩ := h
    refine dd_Rn.chk 15 (c := 0 ≤ a1 * 8 ∧ 0 ≤ (0 : Int32) ∧ 0 ≤ (8 : Int32) ∧ tn (a1 * 8) + tn 8 ≤ 48 ∧ tn 0 + tn 8 ≤ 8) (A := (28, [.ref 133, .int a1], [], sM Ln (dd_u (dd_u I (133 + 1) (upd (I (133 + 1)) 1 a1)) (133 + 2) (va_cpy (I 3) (I (133 + 2)) (tn (a1 * 8)) 0 8)) L c s)) rfl hc ?_ (by omega)
    exact dd_Rn.retK 0 (pc := 28) (ls := [.ref 133, .int a1]) (st := []) (M := sM Ln (dd_u (dd_u I (133 + 1) (upd (I (133 + 1)) 1 a1)) (133 + 2) (va_cpy (I 3) (I (133 + 2)) (tn (a1 * 8)) 0 8)) L c s) (o := (none, .null, sM Ln (dd_u (dd_u I (133 + 1) (upd (I (133 + 1)) 1 a1)) (133 + 2) (va_cpy (I 3) (I (133 + 2)) (tn (a1 * 8)) 0 8)) L c s)) rfl rfl h (by omega)
  · obtain ⟨hc, h⟩ := h
    refine dd_Rn.chk 15 (c := 0 ≤ a1 * 8 ∧ 0 ≤ (0 : Int32) ∧ 0 ≤ (8 : Int32) ∧ tn (a1 * 8) + tn 8 ≤ 48 ∧ tn 0 + tn 8 ≤ 8) (A := (28, [.ref 136, .int a1], [], sM Ln (dd_u (dd_u I (136 + 1) (upd (I (136 + 1)) 1 a1)) (136 + 2) (va_cpy (I 3) (I (136 + 2)) (tn (a1 * 8)) 0 8)) L c s)) rfl hc ?_ (by omega)
    exact dd_Rn.retK 0 (pc := 28) (ls := [.ref 136, .int a1]) (st := []) (M := sM Ln (dd_u (dd_u I (136 + 1) (upd (I (136 + 1)) 1 a1)) (136 + 2) (va_cpy (I 3) (I (136 + 2)) (tn (a1 * 8)) 0 8)) L c s) (o := (none, .null, sM Ln (dd_u (dd_u I (136 + 1) (upd (I (136 + 1)) 1 a1)) (136 + 2) (va_cpy (I 3) (I (136 + 2)) (tn (a1 * 8)) 0 8)) L c s)) rfl rfl h (by omega)

theorem w_X6_standAt_0 {Ln d c s : Nat} {I : Nat → Nat → Int32} {L : Nat → Nat → Int64} {Q : dd_O → Prop} {k : Nat} {a1 : Int32} (hd : 28 ≤ d) (hk : k = 133 ∨ k = 136) (h : dd_Ev (d - 1) m_X8_apart [.int a1, .int (I 1 13)] (sM Ln (dd_u (dd_u (dd_u I k (upd (I k) 4 a1)) (k + 1) (upd (I (k + 1)) 3 (a1 &&& 7))) (k + 1) (upd (upd (I (k + 1)) 3 (a1 &&& 7)) 4 (a1 >>> (3 &&& 31) : Int32))) L c s) (dd_RI Ln c s (fun x1 I1 L1 => Q (none, .null, sM Ln (dd_u I1 (k + 1) (upd (I1 (k + 1)) 5 x1)) L1 c s)))) : dd_Ev d m_X6_standAt [.ref k, .int a1] (sM Ln I L c s) Q := by
  obtain ⟨e, rfl⟩ : ∃ e, d = e + 16 := ⟨d - 16, by omega⟩
  show dd_Rn (e + 16) m_X6_standAt (0, [.ref k, .int a1], [], sM Ln I L c s) Q
  rcases hk with rfl | rfl
  · refine dd_Rn.cI 24 (pc := 37) (ls := [.ref 133, .int a1]) (st := [.int (I 1 13), .int a1, .int 5, .ref (133 + 1)]) (x := m_X8_apart) (as := [.int a1, .int (I 1 13)]) (rest := [.int 5, .ref (133 + 1)]) rfl rfl rfl rfl h ?_
    intro x1 I1 L1 h
    show dd_Rn (e + 16) m_X6_standAt (40, [.ref 133, .int a1], [.int x1, .int 5, .ref (133 + 1)], sM Ln I1 L1 c s) _
    exact dd_Rn.retK 1 (pc := 41) (ls := [.ref 133, .int a1]) (st := []) (M := sM Ln (dd_u I1 (133 + 1) (upd (I1 (133 + 1)) 5 x1)) L1 c s) (o := (none, .null, sM Ln (dd_u I1 (133 + 1) (upd (I1 (133 + 1)) 5 x1)) L1 c s)) rfl rfl h (by omega)
  · refine dd_Rn.cI 24 (pc := 37) (ls := [.ref 136, .int a1]) (st := [.int (I 1 13), .int a1, .int 5, .ref (136 + 1)]) (x := m_X8_apart) (as := [.int a1, .int (I 1 13)]) (rest := [.int 5, .ref (136 + 1)]) rfl rfl rfl rfl h ?_
    intro x1 I1 L1 h
    show dd_Rn (e + 16) m_X6_standAt (40, [.ref 136, .int a1], [.int x1, .int 5, .ref (136 + 1)], sM Ln I1 L1 c s) _
    exact dd_Rn.retK 1 (pc := 41) (ls := [.ref 136, .int a1]) (st := []) (M := sM Ln (dd_u I1 (136 + 1) (upd (I1 (136 + 1)) 5 x1)) L1 c s) (o := (none, .null, sM Ln (dd_u I1 (136 + 1) (upd (I1 (136 + 1)) 5 x1)) L1 c s)) rfl rfl h (by omega)

theorem w_X6_hearsNow_0 {Ln d c s : Nat} {I : Nat → Nat → Int32} {L : Nat → Nat → Int64} {Q : dd_O → Prop} {k : Nat} (hd : 28 ≤ d) (hk : k = 133 ∨ k = 136) (h : ((0 ≤ (I (k + 1) 7) &&& 7 ∧ tn ((I (k + 1) 7) &&& 7) < 8) ∧ dd_Ev (d - 1) m_X6_hears [.ref k, .int (I (k + 2) (tn ((I (k + 1) 7) &&& 7)))] (sM Ln I L c s) (dd_RI Ln c s (fun x1 I1 L1 => ((x1 = 0 ∨ x1 = 1) ∧ Q (none, .int x1, sM Ln I1 L1 c s)))))) : dd_Ev d m_X6_hearsNow [.ref k] (sM Ln I L c s) Q := by
  obtain ⟨e, rfl⟩ : ∃ e, d = e + 16 := ⟨d - 16, by omega⟩
  show dd_Rn (e + 16) m_X6_hearsNow (0, [.ref k], [], sM Ln I L c s) Q
  rcases hk with rfl | rfl
  · refine dd_Rn.sub 2 (pc := 2) (ls := [.ref 133]) (st := [.ref 133, .ref 133]) (M := sM Ln I L c s) (x := m_X6_noteNow) (as := [.ref 133]) (rest := [.ref 133]) rfl rfl rfl rfl ?_
    show dd_Rn (e + 15) m_X6_noteNow (0, [.ref 133], [], sM Ln I L c s) _
    obtain ⟨hc, h⟩ := h
    refine dd_Rn.go 8 (cf' := (14, [.ref 133], [.int ((I (133 + 1) 7) &&& 7), .ref (133 + 2)], sM Ln I L c s)) rfl ?_ (by omega)
    refine dd_Rn.ci (fun j0 => (14, [.ref 133], [.int j0, .ref (133 + 2)], sM Ln I L c s)) (fun j0 => (15, [.ref 133], [.int (I (133 + 2) (tn j0))], sM Ln I L c s)) (fun j0 => 0 ≤ j0 ∧ tn j0 < 8) ((I (133 + 1) 7) &&& 7) (fun j0 hc h => dd_Rn.chk 0 (c := 0 ≤ j0 ∧ tn j0 < 8) (A := (15, [.ref 133], [.int (I (133 + 2) (tn j0))], sM Ln I L c s)) rfl hc h (by omega)) hc ?_
    refine dd_Rn.se (cf := (15, [.ref 133], [.int (I (133 + 2) (tn ((I (133 + 1) 7) &&& 7)))], sM Ln I L c s)) ?_
    refine dd_Rn.retK 0 (pc := 15) (ls := [.ref 133]) (st := [.int (I (133 + 2) (tn ((I (133 + 1) 7) &&& 7)))]) (M := sM Ln I L c s) (o := (none, .int (I (133 + 2) (tn ((I (133 + 1) 7) &&& 7))), sM Ln I L c s)) rfl rfl (dd_Af.ret rfl ?_) (by omega)
    show dd_Rn (e + 16) m_X6_hearsNow (5, [.ref 133], [.int (I (133 + 2) (tn ((I (133 + 1) 7) &&& 7))), .ref 133], sM Ln I L c s) _
    refine dd_Rn.cI 0 (pc := 5) (ls := [.ref 133]) (st := [.int (I (133 + 2) (tn ((I (133 + 1) 7) &&& 7))), .ref 133]) (x := m_X6_hears) (as := [.ref 133, .int (I (133 + 2) (tn ((I (133 + 1) 7) &&& 7)))]) (rest := []) rfl rfl rfl rfl h ?_
    intro x1 I1 L1 h
    show dd_Rn (e + 16) m_X6_hearsNow (8, [.ref 133], [.int x1], sM Ln I1 L1 c s) _
    obtain ⟨hc, h⟩ := h
    exact dd_Rn.retB 0 (cf' := (8, [.ref 133], [.int x1], sM Ln I1 L1 c s)) (v := x1) rfl rfl hc h (by omega)
  · refine dd_Rn.sub 2 (pc := 2) (ls := [.ref 136]) (st := [.ref 136, .ref 136]) (M := sM Ln I L c s) (x := m_X6_noteNow) (as := [.ref 136]) (rest := [.ref 136]) rfl rfl rfl rfl ?_
    show dd_Rn (e + 15) m_X6_noteNow (0, [.ref 136], [], sM Ln I L c s) _
    obtain ⟨hc, h⟩ := h
    refine dd_Rn.go 8 (cf' := (14, [.ref 136], [.int ((I (136 + 1) 7) &&& 7), .ref (136 + 2)], sM Ln I L c s)) rfl ?_ (by omega)
    refine dd_Rn.ci (fun j0 => (14, [.ref 136], [.int j0, .ref (136 + 2)], sM Ln I L c s)) (fun j0 => (15, [.ref 136], [.int (I (136 + 2) (tn j0))], sM Ln I L c s)) (fun j0 => 0 ≤ j0 ∧ tn j0 < 8) ((I (136 + 1) 7) &&& 7) (fun j0 hc h => dd_Rn.chk 0 (c := 0 ≤ j0 ∧ tn j0 < 8) (A := (15, [.ref 136], [.int (I (136 + 2) (tn j0))], sM Ln I L c s)) rfl hc h (by omega)) hc ?_
    refine dd_Rn.se (cf := (15, [.ref 136], [.int (I (136 + 2) (tn ((I (136 + 1) 7) &&& 7)))], sM Ln I L c s)) ?_
    refine dd_Rn.retK 0 (pc := 15) (ls := [.ref 136]) (st := [.int (I (136 + 2) (tn ((I (136 + 1) 7) &&& 7)))]) (M := sM Ln I L c s) (o := (none, .int (I (136 + 2) (tn ((I (136 + 1) 7) &&& 7))), sM Ln I L c s)) rfl rfl (dd_Af.ret rfl ?_) (by omega)
    show dd_Rn (e + 16) m_X6_hearsNow (5, [.ref 136], [.int (I (136 + 2) (tn ((I (136 + 1) 7) &&& 7))), .ref 136], sM Ln I L c s) _
    refine dd_Rn.cI 0 (pc := 5) (ls := [.ref 136]) (st := [.int (I (136 + 2) (tn ((I (136 + 1) 7) &&& 7))), .ref 136]) (x := m_X6_hears) (as := [.ref 136, .int (I (136 + 2) (tn ((I (136 + 1) 7) &&& 7)))]) (rest := []) rfl rfl rfl rfl h ?_
    intro x1 I1 L1 h
    show dd_Rn (e + 16) m_X6_hearsNow (8, [.ref 136], [.int x1], sM Ln I1 L1 c s) _
    obtain ⟨hc, h⟩ := h
    exact dd_Rn.retB 0 (cf' := (8, [.ref 136], [.int x1], sM Ln I1 L1 c s)) (v := x1) rfl rfl hc h (by omega)

theorem w_X6_hears_0 {Ln d c s : Nat} {I : Nat → Nat → Int32} {L : Nat → Nat → Int64} {Q : dd_O → Prop} {k : Nat} {a1 : Int32} (hd : 28 ≤ d) (hk : k = 133 ∨ k = 136) (h : ((0 ≤ I k 4 ∧ tn (I k 4) < 64) ∧ ((a1 = 0 → ((I 2 (tn (I k 4)) ≤ 0 → dd_Ev (d - 1) m_X2_weigh [.ref 25, .ref (k + 1), .int 1, .int 0] (sM Ln I L c s) (dd_RV Ln c s (fun I1 L1 => (((((I1 (k + 1) 2) + (I1 k 5)) + (I1 25 3)) - (I 2 (tn (I k 4))) < I1 (k + 1) 5 → Q (none, .int 0, sM Ln I1 L1 c s)) ∧ (¬ ((((I1 (k + 1) 2) + (I1 k 5)) + (I1 25 3)) - (I 2 (tn (I k 4))) < I1 (k + 1) 5) → Q (none, .int 1, sM Ln I1 L1 c s)))))) ∧ (¬ (I 2 (tn (I k 4)) ≤ 0) → dd_Ev (d - 1) m_X2_weigh [.ref 25, .ref (k + 1), .int 1, .int 1] (sM Ln I L c s) (dd_RV Ln c s (fun I2 L2 => (((((I2 (k + 1) 2) + (I2 k 5)) + (I2 25 3)) - (I 2 (tn (I k 4))) < I2 (k + 1) 5 → Q (none, .int 0, sM Ln I2 L2 c s)) ∧ (¬ ((((I2 (k + 1) 2) + (I2 k 5)) + (I2 25 3)) - (I 2 (tn (I k 4))) < I2 (k + 1) 5) → Q (none, .int 1, sM Ln I2 L2 c s)))))))) ∧ (¬ (a1 = 0) → ((I 2 (tn (I k 4)) ≤ 0 → dd_Ev (d - 1) m_X2_weigh [.ref 25, .ref (k + 1), .int 0, .int 0] (sM Ln I L c s) (dd_RV Ln c s (fun I3 L3 => (((((I3 (k + 1) 2) + (I3 k 5)) + (I3 25 3)) - (I 2 (tn (I k 4))) < I3 (k + 1) 5 → Q (none, .int 0, sM Ln I3 L3 c s)) ∧ (¬ ((((I3 (k + 1) 2) + (I3 k 5)) + (I3 25 3)) - (I 2 (tn (I k 4))) < I3 (k + 1) 5) → Q (none, .int 1, sM Ln I3 L3 c s)))))) ∧ (¬ (I 2 (tn (I k 4)) ≤ 0) → dd_Ev (d - 1) m_X2_weigh [.ref 25, .ref (k + 1), .int 0, .int 1] (sM Ln I L c s) (dd_RV Ln c s (fun I4 L4 => (((((I4 (k + 1) 2) + (I4 k 5)) + (I4 25 3)) - (I 2 (tn (I k 4))) < I4 (k + 1) 5 → Q (none, .int 0, sM Ln I4 L4 c s)) ∧ (¬ ((((I4 (k + 1) 2) + (I4 k 5)) + (I4 25 3)) - (I 2 (tn (I k 4))) < I4 (k + 1) 5) → Q (none, .int 1, sM Ln I4 L4 c s))))))))))) : dd_Ev d m_X6_hears [.ref k, .int a1] (sM Ln I L c s) Q := by
  obtain ⟨e, rfl⟩ : ∃ e, d = e + 16 := ⟨d - 16, by omega⟩
  show dd_Rn (e + 16) m_X6_hears (0, [.ref k, .int a1, .null], [], sM Ln I L c s) Q
  rcases hk with rfl | rfl
  · obtain ⟨hc, h⟩ := h
    refine dd_Rn.go 5 (cf' := (11, [.ref 133, .int a1, .null], [.int (I 133 4), .ref 2], sM Ln I L c s)) rfl ?_ (by omega)
    refine dd_Rn.ci (fun j0 => (11, [.ref 133, .int a1, .null], [.int j0, .ref 2], sM Ln I L c s)) (fun j0 => (12, [.ref 133, .int a1, .null], [.int (I 2 (tn j0))], sM Ln I L c s)) (fun j0 => 0 ≤ j0 ∧ tn j0 < 64) (I 133 4) (fun j0 hc h => dd_Rn.chk 0 (c := 0 ≤ j0 ∧ tn j0 < 64) (A := (12, [.ref 133, .int a1, .null], [.int (I 2 (tn j0))], sM Ln I L c s)) rfl hc h (by omega)) hc ?_
    refine dd_Rn.se (cf := (12, [.ref 133, .int a1, .null], [.int (I 2 (tn (I 133 4)))], sM Ln I L c s)) ?_
    refine dd_Rn.ite 6 (c := a1 = 0) (A := (25, [.ref 133, .int a1, .int (I 2 (tn (I 133 4)))], [.ref (133 + 1), .ref 25], sM Ln I L c s)) (B := (29, [.ref 133, .int a1, .int (I 2 (tn (I 133 4)))], [.ref (133 + 1), .ref 25], sM Ln I L c s)) rfl (fun hc => ?_) (fun hc => ?_) (by omega)
    · have h := h.1 hc
      refine dd_Rn.ite 3 (c := I 2 (tn (I 133 4)) ≤ 0) (A := (38, [.ref 133, .int a1, .int (I 2 (tn (I 133 4)))], [.int 1, .ref (133 + 1), .ref 25], sM Ln I L c s)) (B := (34, [.ref 133, .int a1, .int (I 2 (tn (I 133 4)))], [.int 1, .ref (133 + 1), .ref 25], sM Ln I L c s)) rfl (fun hc => ?_) (fun hc => ?_) (by omega)
      · have h := h.1 hc
        refine dd_Rn.cV 1 (pc := 39) (ls := [.ref 133, .int a1, .int (I 2 (tn (I 133 4)))]) (st := [.int 0, .int 1, .ref (133 + 1), .ref 25]) (x := m_X2_weigh) (as := [.ref 25, .ref (133 + 1), .int 1, .int 0]) (rest := []) rfl rfl rfl rfl h ?_
        intro I1 L1 h
        show dd_Rn (e + 16) m_X6_hears (42, [.ref 133, .int a1, .int (I 2 (tn (I 133 4)))], [], sM Ln I1 L1 c s) _
        refine dd_Rn.ite 17 (c := (((I1 (133 + 1) 2) + (I1 133 5)) + (I1 25 3)) - (I 2 (tn (I 133 4))) < I1 (133 + 1) 5) (A := (76, [.ref 133, .int a1, .int (I 2 (tn (I 133 4)))], [], sM Ln I1 L1 c s)) (B := (72, [.ref 133, .int a1, .int (I 2 (tn (I 133 4)))], [], sM Ln I1 L1 c s)) rfl (fun hc => ?_) (fun hc => ?_) (by omega)
        · have h := h.1 hc
          exact dd_Rn.retK 1 (pc := 77) (ls := [.ref 133, .int a1, .int (I 2 (tn (I 133 4)))]) (st := [.int 0]) (M := sM Ln I1 L1 c s) (o := (none, .int 0, sM Ln I1 L1 c s)) rfl rfl h (by omega)
        · have h := h.2 hc
          exact dd_Rn.retK 2 (pc := 77) (ls := [.ref 133, .int a1, .int (I 2 (tn (I 133 4)))]) (st := [.int 1]) (M := sM Ln I1 L1 c s) (o := (none, .int 1, sM Ln I1 L1 c s)) rfl rfl h (by omega)
      · have h := h.2 hc
        refine dd_Rn.cV 2 (pc := 39) (ls := [.ref 133, .int a1, .int (I 2 (tn (I 133 4)))]) (st := [.int 1, .int 1, .ref (133 + 1), .ref 25]) (x := m_X2_weigh) (as := [.ref 25, .ref (133 + 1), .int 1, .int 1]) (rest := []) rfl rfl rfl rfl h ?_
        intro I2 L2 h
        show dd_Rn (e + 16) m_X6_hears (42, [.ref 133, .int a1, .int (I 2 (tn (I 133 4)))], [], sM Ln I2 L2 c s) _
        refine dd_Rn.ite 17 (c := (((I2 (133 + 1) 2) + (I2 133 5)) + (I2 25 3)) - (I 2 (tn (I 133 4))) < I2 (133 + 1) 5) (A := (76, [.ref 133, .int a1, .int (I 2 (tn (I 133 4)))], [], sM Ln I2 L2 c s)) (B := (72, [.ref 133, .int a1, .int (I 2 (tn (I 133 4)))], [], sM Ln I2 L2 c s)) rfl (fun hc => ?_) (fun hc => ?_) (by omega)
        · have h := h.1 hc
          exact dd_Rn.retK 1 (pc := 77) (ls := [.ref 133, .int a1, .int (I 2 (tn (I 133 4)))]) (st := [.int 0]) (M := sM Ln I2 L2 c s) (o := (none, .int 0, sM Ln I2 L2 c s)) rfl rfl h (by omega)
        · have h := h.2 hc
          exact dd_Rn.retK 2 (pc := 77) (ls := [.ref 133, .int a1, .int (I 2 (tn (I 133 4)))]) (st := [.int 1]) (M := sM Ln I2 L2 c s) (o := (none, .int 1, sM Ln I2 L2 c s)) rfl rfl h (by omega)
    · have h := h.2 hc
      refine dd_Rn.ite 2 (c := I 2 (tn (I 133 4)) ≤ 0) (A := (38, [.ref 133, .int a1, .int (I 2 (tn (I 133 4)))], [.int 0, .ref (133 + 1), .ref 25], sM Ln I L c s)) (B := (34, [.ref 133, .int a1, .int (I 2 (tn (I 133 4)))], [.int 0, .ref (133 + 1), .ref 25], sM Ln I L c s)) rfl (fun hc => ?_) (fun hc => ?_) (by omega)
      · have h := h.1 hc
        refine dd_Rn.cV 1 (pc := 39) (ls := [.ref 133, .int a1, .int (I 2 (tn (I 133 4)))]) (st := [.int 0, .int 0, .ref (133 + 1), .ref 25]) (x := m_X2_weigh) (as := [.ref 25, .ref (133 + 1), .int 0, .int 0]) (rest := []) rfl rfl rfl rfl h ?_
        intro I3 L3 h
        show dd_Rn (e + 16) m_X6_hears (42, [.ref 133, .int a1, .int (I 2 (tn (I 133 4)))], [], sM Ln I3 L3 c s) _
        refine dd_Rn.ite 17 (c := (((I3 (133 + 1) 2) + (I3 133 5)) + (I3 25 3)) - (I 2 (tn (I 133 4))) < I3 (133 + 1) 5) (A := (76, [.ref 133, .int a1, .int (I 2 (tn (I 133 4)))], [], sM Ln I3 L3 c s)) (B := (72, [.ref 133, .int a1, .int (I 2 (tn (I 133 4)))], [], sM Ln I3 L3 c s)) rfl (fun hc => ?_) (fun hc => ?_) (by omega)
        · have h := h.1 hc
          exact dd_Rn.retK 1 (pc := 77) (ls := [.ref 133, .int a1, .int (I 2 (tn (I 133 4)))]) (st := [.int 0]) (M := sM Ln I3 L3 c s) (o := (none, .int 0, sM Ln I3 L3 c s)) rfl rfl h (by omega)
        · have h := h.2 hc
          exact dd_Rn.retK 2 (pc := 77) (ls := [.ref 133, .int a1, .int (I 2 (tn (I 133 4)))]) (st := [.int 1]) (M := sM Ln I3 L3 c s) (o := (none, .int 1, sM Ln I3 L3 c s)) rfl rfl h (by omega)
      · have h := h.2 hc
        refine dd_Rn.cV 2 (pc := 39) (ls := [.ref 133, .int a1, .int (I 2 (tn (I 133 4)))]) (st := [.int 1, .int 0, .ref (133 + 1), .ref 25]) (x := m_X2_weigh) (as := [.ref 25, .ref (133 + 1), .int 0, .int 1]) (rest := []) rfl rfl rfl rfl h ?_
        intro I4 L4 h
        show dd_Rn (e + 16) m_X6_hears (42, [.ref 133, .int a1, .int (I 2 (tn (I 133 4)))], [], sM Ln I4 L4 c s) _
        refine dd_Rn.ite 17 (c := (((I4 (133 + 1) 2) + (I4 133 5)) + (I4 25 3)) - (I 2 (tn (I 133 4))) < I4 (133 + 1) 5) (A := (76, [.ref 133, .int a1, .int (I 2 (tn (I 133 4)))], [], sM Ln I4 L4 c s)) (B := (72, [.ref 133, .int a1, .int (I 2 (tn (I 133 4)))], [], sM Ln I4 L4 c s)) rfl (fun hc => ?_) (fun hc => ?_) (by omega)
        · have h := h.1 hc
          exact dd_Rn.retK 1 (pc := 77) (ls := [.ref 133, .int a1, .int (I 2 (tn (I 133 4)))]) (st := [.int 0]) (M := sM Ln I4 L4 c s) (o := (none, .int 0, sM Ln I4 L4 c s)) rfl rfl h (by omega)
        · have h := h.2 hc
          exact dd_Rn.retK 2 (pc := 77) (ls := [.ref 133, .int a1, .int (I 2 (tn (I 133 4)))]) (st := [.int 1]) (M := sM Ln I4 L4 c s) (o := (none, .int 1, sM Ln I4 L4 c s)) rfl rfl h (by omega)
  · obtain ⟨hc, h⟩ := h
    refine dd_Rn.go 5 (cf' := (11, [.ref 136, .int a1, .null], [.int (I 136 4), .ref 2], sM Ln I L c s)) rfl ?_ (by omega)
    refine dd_Rn.ci (fun j0 => (11, [.ref 136, .int a1, .null], [.int j0, .ref 2], sM Ln I L c s)) (fun j0 => (12, [.ref 136, .int a1, .null], [.int (I 2 (tn j0))], sM Ln I L c s)) (fun j0 => 0 ≤ j0 ∧ tn j0 < 64) (I 136 4) (fun j0 hc h => dd_Rn.chk 0 (c := 0 ≤ j0 ∧ tn j0 < 64) (A := (12, [.ref 136, .int a1, .null], [.int (I 2 (tn j0))], sM Ln I L c s)) rfl hc h (by omega)) hc ?_
    refine dd_Rn.se (cf := (12, [.ref 136, .int a1, .null], [.int (I 2 (tn (I 136 4)))], sM Ln I L c s)) ?_
    refine dd_Rn.ite 6 (c := a1 = 0) (A := (25, [.ref 136, .int a1, .int (I 2 (tn (I 136 4)))], [.ref (136 + 1), .ref 25], sM Ln I L c s)) (B := (29, [.ref 136, .int a1, .int (I 2 (tn (I 136 4)))], [.ref (136 + 1), .ref 25], sM Ln I L c s)) rfl (fun hc => ?_) (fun hc => ?_) (by omega)
    · have h := h.1 hc
      refine dd_Rn.ite 3 (c := I 2 (tn (I 136 4)) ≤ 0) (A := (38, [.ref 136, .int a1, .int (I 2 (tn (I 136 4)))], [.int 1, .ref (136 + 1), .ref 25], sM Ln I L c s)) (B := (34, [.ref 136, .int a1, .int (I 2 (tn (I 136 4)))], [.int 1, .ref (136 + 1), .ref 25], sM Ln I L c s)) rfl (fun hc => ?_) (fun hc => ?_) (by omega)
      · have h := h.1 hc
        refine dd_Rn.cV 1 (pc := 39) (ls := [.ref 136, .int a1, .int (I 2 (tn (I 136 4)))]) (st := [.int 0, .int 1, .ref (136 + 1), .ref 25]) (x := m_X2_weigh) (as := [.ref 25, .ref (136 + 1), .int 1, .int 0]) (rest := []) rfl rfl rfl rfl h ?_
        intro I1 L1 h
        show dd_Rn (e + 16) m_X6_hears (42, [.ref 136, .int a1, .int (I 2 (tn (I 136 4)))], [], sM Ln I1 L1 c s) _
        refine dd_Rn.ite 17 (c := (((I1 (136 + 1) 2) + (I1 136 5)) + (I1 25 3)) - (I 2 (tn (I 136 4))) < I1 (136 + 1) 5) (A := (76, [.ref 136, .int a1, .int (I 2 (tn (I 136 4)))], [], sM Ln I1 L1 c s)) (B := (72, [.ref 136, .int a1, .int (I 2 (tn (I 136 4)))], [], sM Ln I1 L1 c s)) rfl (fun hc => ?_) (fun hc => ?_) (by omega)
        · have h := h.1 hc
          exact dd_Rn.retK 1 (pc := 77) (ls := [.ref 136, .int a1, .int (I 2 (tn (I 136 4)))]) (st := [.int 0]) (M := sM Ln I1 L1 c s) (o := (none, .int 0, sM Ln I1 L1 c s)) rfl rfl h (by omega)
        · have h := h.2 hc
          exact dd_Rn.retK 2 (pc := 77) (ls := [.ref 136, .int a1, .int (I 2 (tn (I 136 4)))]) (st := [.int 1]) (M := sM Ln I1 L1 c s) (o := (none, .int 1, sM Ln I1 L1 c s)) rfl rfl h (by omega)
      · have h := h.2 hc
        refine dd_Rn.cV 2 (pc := 39) (ls := [.ref 136, .int a1, .int (I 2 (tn (I 136 4)))]) (st := [.int 1, .int 1, .ref (136 + 1), .ref 25]) (x := m_X2_weigh) (as := [.ref 25, .ref (136 + 1), .int 1, .int 1]) (rest := []) rfl rfl rfl rfl h ?_
        intro I2 L2 h
        show dd_Rn (e + 16) m_X6_hears (42, [.ref 136, .int a1, .int (I 2 (tn (I 136 4)))], [], sM Ln I2 L2 c s) _
        refine dd_Rn.ite 17 (c := (((I2 (136 + 1) 2) + (I2 136 5)) + (I2 25 3)) - (I 2 (tn (I 136 4))) < I2 (136 + 1) 5) (A := (76, [.ref 136, .int a1, .int (I 2 (tn (I 136 4)))], [], sM Ln I2 L2 c s)) (B := (72, [.ref 136, .int a1, .int (I 2 (tn (I 136 4)))], [], sM Ln I2 L2 c s)) rfl (fun hc => ?_) (fun hc => ?_) (by omega)
        · have h := h.1 hc
          exact dd_Rn.retK 1 (pc := 77) (ls := [.ref 136, .int a1, .int (I 2 (tn (I 136 4)))]) (st := [.int 0]) (M := sM Ln I2 L2 c s) (o := (none, .int 0, sM Ln I2 L2 c s)) rfl rfl h (by omega)
        · have h := h.2 hc
          exact dd_Rn.retK 2 (pc := 77) (ls := [.ref 136, .int a1, .int (I 2 (tn (I 136 4)))]) (st := [.int 1]) (M := sM Ln I2 L2 c s) (o := (none, .int 1, sM Ln I2 L2 c s)) rfl rfl h (by omega)
    · have h := h.2 hc
      refine dd_Rn.ite 2 (c := I 2 (tn (I 136 4)) ≤ 0) (A := (38, [.ref 136, .int a1, .int (I 2 (tn (I 136 4)))], [.int 0, .ref (136 + 1), .ref 25], sM Ln I L c s)) (B := (34, [.ref 136, .int a1, .int (I 2 (tn (I 136 4)))], [.int 0, .ref (136 + 1), .ref 25], sM Ln I L c s)) rfl (fun hc => ?_) (fun hc => ?_) (by omega)
      · have h := h.1 hc
        refine dd_Rn.cV 1 (pc := 39) (ls := [.ref 136, .int a1, .int (I 2 (tn (I 136 4)))]) (st := [.int 0, .int 0, .ref (136 + 1), .ref 25]) (x := m_X2_weigh) (as := [.ref 25, .ref (136 + 1), .int 0, .int 0]) (rest := []) rfl rfl rfl rfl h ?_
        intro I3 L3 h
        show dd_Rn (e + 16) m_X6_hears (42, [.ref 136, .int a1, .int (I 2 (tn (I 136 4)))], [], sM Ln I3 L3 c s) _
        refine dd_Rn.ite 17 (c := (((I3 (136 + 1) 2) + (I3 136 5)) + (I3 25 3)) - (I 2 (tn (I 136 4))) < I3 (136 + 1) 5) (A := (76, [.ref 136, .int a1, .int (I 2 (tn (I 136 4)))], [], sM Ln I3 L3 c s)) (B := (72, [.ref 136, .int a1, .int (I 2 (tn (I 136 4)))], [], sM Ln I3 L3 c s)) rfl (fun hc => ?_) (fun hc => ?_) (by omega)
        · have h := h.1 hc
          exact dd_Rn.retK 1 (pc := 77) (ls := [.ref 136, .int a1, .int (I 2 (tn (I 136 4)))]) (st := [.int 0]) (M := sM Ln I3 L3 c s) (o := (none, .int 0, sM Ln I3 L3 c s)) rfl rfl h (by omega)
        · have h := h.2 hc
          exact dd_Rn.retK 2 (pc := 77) (ls := [.ref 136, .int a1, .int (I 2 (tn (I 136 4)))]) (st := [.int 1]) (M := sM Ln I3 L3 c s) (o := (none, .int 1, sM Ln I3 L3 c s)) rfl rfl h (by omega)
      · have h := h.2 hc
        refine dd_Rn.cV 2 (pc := 39) (ls := [.ref 136, .int a1, .int (I 2 (tn (I 136 4)))]) (st := [.int 1, .int 0, .ref (136 + 1), .ref 25]) (x := m_X2_weigh) (as := [.ref 25, .ref (136 + 1), .int 0, .int 1]) (rest := []) rfl rfl rfl rfl h ?_
        intro I4 L4 h
        show dd_Rn (e + 16) m_X6_hears (42, [.ref 136, .int a1, .int (I 2 (tn (I 136 4)))], [], sM Ln I4 L4 c s) _
        refine dd_Rn.ite 17 (c := (((I4 (136 + 1) 2) + (I4 136 5)) + (I4 25 3)) - (I 2 (tn (I 136 4))) < I4 (136 + 1) 5) (A := (76, [.ref 136, .int a1, .int (I 2 (tn (I 136 4)))], [], sM Ln I4 L4 c s)) (B := (72, [.ref 136, .int a1, .int (I 2 (tn (I 136 4)))], [], sM Ln I4 L4 c s)) rfl (fun hc => ?_) (fun hc => ?_) (by omega)
        · have h := h.1 hc
          exact dd_Rn.retK 1 (pc := 77) (ls := [.ref 136, .int a1, .int (I 2 (tn (I 136 4)))]) (st := [.int 0]) (M := sM Ln I4 L4 c s) (o := (none, .int 0, sM Ln I4 L4 c s)) rfl rfl h (by omega)
        · have h := h.2 hc
          exact dd_Rn.retK 2 (pc := 77) (ls := [.ref 136, .int a1, .int (I 2 (tn (I 136 4)))]) (st := [.int 1]) (M := sM Ln I4 L4 c s) (o := (none, .int 1, sM Ln I4 L4 c s)) rfl rfl h (by omega)

theorem w_X6_isLedBy_0 {Ln d c s : Nat} {I : Nat → Nat → Int32} {L : Nat → Nat → Int64} {Q : dd_O → Prop} {k : Nat} {a1 : Int32} (hd : 28 ≤ d) (hk : k = 133 ∨ k = 136) (h : dd_Ev (d - 1) m_X6_hears [.ref k, .int a1] (sM Ln I L c s) (dd_RI Ln c s (fun x1 I1 L1 => ((x1 = 0 → Q (none, .int 0, sM Ln I1 L1 c s)) ∧ (¬ (x1 = 0) → ((I1 25 4 = 0 → Q (none, .int 1, sM Ln I1 L1 c s)) ∧ (¬ (I1 25 4 = 0) → Q (none, .int 0, sM Ln I1 L1 c s)))))))) : dd_Ev d m_X6_isLedBy [.ref k, .int a1] (sM Ln I L c s) Q := by
  obtain ⟨e, rfl⟩ : ∃ e, d = e + 16 := ⟨d - 16, by omega⟩
  show dd_Rn (e + 16) m_X6_isLedBy (0, [.ref k, .int a1], [], sM Ln I L c s) Q
  rcases hk with rfl | rfl
  · refine dd_Rn.cI 2 (pc := 2) (ls := [.ref 133, .int a1]) (st := [.int a1, .ref 133]) (x := m_X6_hears) (as := [.ref 133, .int a1]) (rest := []) rfl rfl rfl rfl h ?_
    intro x1 I1 L1 h
    show dd_Rn (e + 16) m_X6_isLedBy (5, [.ref 133, .int a1], [.int x1], sM Ln I1 L1 c s) _
    refine dd_Rn.ite 0 (c := x1 = 0) (A := (22, [.ref 133, .int a1], [], sM Ln I1 L1 c s)) (B := (8, [.ref 133, .int a1], [], sM Ln I1 L1 c s)) rfl (fun hc => ?_) (fun hc => ?_) (by omega)
    · have h := h.1 hc
      exact dd_Rn.retK 1 (pc := 23) (ls := [.ref 133, .int a1]) (st := [.int 0]) (M := sM Ln I1 L1 c s) (o := (none, .int 0, sM Ln I1 L1 c s)) rfl rfl h (by omega)
    · have h := h.2 hc
      refine dd_Rn.ite 3 (c := I1 25 4 = 0) (A := (18, [.ref 133, .int a1], [], sM Ln I1 L1 c s)) (B := (22, [.ref 133, .int a1], [], sM Ln I1 L1 c s)) rfl (fun hc => ?_) (fun hc => ?_) (by omega)
      · have h := h.1 hc
        exact dd_Rn.retK 2 (pc := 23) (ls := [.ref 133, .int a1]) (st := [.int 1]) (M := sM Ln I1 L1 c s) (o := (none, .int 1, sM Ln I1 L1 c s)) rfl rfl h (by omega)
      · have h := h.2 hc
        exact dd_Rn.retK 1 (pc := 23) (ls := [.ref 133, .int a1]) (st := [.int 0]) (M := sM Ln I1 L1 c s) (o := (none, .int 0, sM Ln I1 L1 c s)) rfl rfl h (by omega)
  · refine dd_Rn.cI 2 (pc := 2) (ls := [.ref 136, .int a1]) (st := [.int a1, .ref 136]) (x := m_X6_hears) (as := [.ref 136, .int a1]) (rest := []) rfl rfl rfl rfl h ?_
    intro x1 I1 L1 h
    show dd_Rn (e + 16) m_X6_isLedBy (5, [.ref 136, .int a1], [.int x1], sM Ln I1 L1 c s) _
    refine dd_Rn.ite 0 (c := x1 = 0) (A := (22, [.ref 136, .int a1], [], sM Ln I1 L1 c s)) (B := (8, [.ref 136, .int a1], [], sM Ln I1 L1 c s)) rfl (fun hc => ?_) (fun hc => ?_) (by omega)
    · have h := h.1 hc
      exact dd_Rn.retK 1 (pc := 23) (ls := [.ref 136, .int a1]) (st := [.int 0]) (M := sM Ln I1 L1 c s) (o := (none, .int 0, sM Ln I1 L1 c s)) rfl rfl h (by omega)
    · have h := h.2 hc
      refine dd_Rn.ite 3 (c := I1 25 4 = 0) (A := (18, [.ref 136, .int a1], [], sM Ln I1 L1 c s)) (B := (22, [.ref 136, .int a1], [], sM Ln I1 L1 c s)) rfl (fun hc => ?_) (fun hc => ?_) (by omega)
      · have h := h.1 hc
        exact dd_Rn.retK 2 (pc := 23) (ls := [.ref 136, .int a1]) (st := [.int 1]) (M := sM Ln I1 L1 c s) (o := (none, .int 1, sM Ln I1 L1 c s)) rfl rfl h (by omega)
      · have h := h.2 hc
        exact dd_Rn.retK 1 (pc := 23) (ls := [.ref 136, .int a1]) (st := [.int 0]) (M := sM Ln I1 L1 c s) (o := (none, .int 0, sM Ln I1 L1 c s)) rfl rfl h (by omega)

theorem w_X6_goesTo_0 {Ln d c s : Nat} {I : Nat → Nat → Int32} {L : Nat → Nat → Int64} {Q : dd_O → Prop} {k : Nat} {a1 : Int32} (hd : 28 ≤ d) (hk : k = 133 ∨ k = 136) (h : dd_Ev (d - 1) m_X6_hears [.ref k, .int a1] (sM Ln I L c s) (dd_RI Ln c s (fun x1 I1 L1 => ((I1 25 4 = 0 → ((x1 = 0 → Q (none, .int (-2), sM Ln I1 L1 c s)) ∧ (¬ (x1 = 0) → ((a1 = 0 → dd_Ev (d - 1) m_X8_stepNearer [.ref 1, .int (I1 k 4)] (sM Ln I1 L1 c s) (dd_RI Ln c s (fun x2 I2 L2 => Q (none, .int x2, sM Ln I2 L2 c s)))) ∧ (¬ (a1 = 0) → dd_Ev (d - 1) m_X8_stepTo [.ref 1, .int (I1 k 4), .int a1] (sM Ln I1 L1 c s) (dd_RI Ln c s (fun x3 I3 L3 => Q (none, .int x3, sM Ln I3 L3 c s)))))))) ∧ (¬ (I1 25 4 = 0) → Q (none, .int (I1 k 4), sM Ln I1 L1 c s)))))) : dd_Ev d m_X6_goesTo [.ref k, .int a1] (sM Ln I L c s) Q := by
  obtain ⟨e, rfl⟩ : ∃ e, d = e + 16 := ⟨d - 16, by omega⟩
  show dd_Rn (e + 16) m_X6_goesTo (0, [.ref k, .int a1, .null], [], sM Ln I L c s) Q
  rcases hk with rfl | rfl
  · refine dd_Rn.cI 2 (pc := 2) (ls := [.ref 133, .int a1, .null]) (st := [.int a1, .ref 133]) (x := m_X6_hears) (as := [.ref 133, .int a1]) (rest := []) rfl rfl rfl rfl h ?_
    intro x1 I1 L1 h
    show dd_Rn (e + 16) m_X6_goesTo (5, [.ref 133, .int a1, .null], [.int x1], sM Ln I1 L1 c s) _
    refine dd_Rn.ite 4 (c := I1 25 4 = 0) (A := (21, [.ref 133, .int a1, .int x1], [], sM Ln I1 L1 c s)) (B := (16, [.ref 133, .int a1, .int x1], [], sM Ln I1 L1 c s)) rfl (fun hc => ?_) (fun hc => ?_) (by omega)
    · have h := h.1 hc
      refine dd_Rn.ite 1 (c := x1 = 0) (A := (25, [.ref 133, .int a1, .int x1], [], sM Ln I1 L1 c s)) (B := (28, [.ref 133, .int a1, .int x1], [], sM Ln I1 L1 c s)) rfl (fun hc => ?_) (fun hc => ?_) (by omega)
      · have h := h.1 hc
        exact dd_Rn.retK 1 (pc := 27) (ls := [.ref 133, .int a1, .int x1]) (st := [.int (-2)]) (M := sM Ln I1 L1 c s) (o := (none, .int (-2), sM Ln I1 L1 c s)) rfl rfl h (by omega)
      · have h := h.2 hc
        refine dd_Rn.ite 1 (c := a1 = 0) (A := (32, [.ref 133, .int a1, .int x1], [], sM Ln I1 L1 c s)) (B := (46, [.ref 133, .int a1, .int x1], [], sM Ln I1 L1 c s)) rfl (fun hc => ?_) (fun hc => ?_) (by omega)
        · have h := h.1 hc
          refine dd_Rn.cI 4 (pc := 40) (ls := [.ref 133, .int a1, .int x1]) (st := [.int (I1 133 4), .ref 1]) (x := m_X8_stepNearer) (as := [.ref 1, .int (I1 133 4)]) (rest := []) rfl rfl rfl rfl h ?_
          intro x2 I2 L2 h
          show dd_Rn (e + 16) m_X6_goesTo (43, [.ref 133, .int a1, .int x1], [.int x2], sM Ln I2 L2 c s) _
          exact dd_Rn.retK 1 (pc := 58) (ls := [.ref 133, .int a1, .int x1]) (st := [.int x2]) (M := sM Ln I2 L2 c s) (o := (none, .int x2, sM Ln I2 L2 c s)) rfl rfl h (by omega)
        · have h := h.2 hc
          refine dd_Rn.cI 5 (pc := 55) (ls := [.ref 133, .int a1, .int x1]) (st := [.int a1, .int (I1 133 4), .ref 1]) (x := m_X8_stepTo) (as := [.ref 1, .int (I1 133 4), .int a1]) (rest := []) rfl rfl rfl rfl h ?_
          intro x3 I3 L3 h
          show dd_Rn (e + 16) m_X6_goesTo (58, [.ref 133, .int a1, .int x1], [.int x3], sM Ln I3 L3 c s) _
          exact dd_Rn.retK 0 (pc := 58) (ls := [.ref 133, .int a1, .int x1]) (st := [.int x3]) (M := sM Ln I3 L3 c s) (o := (none, .int x3, sM Ln I3 L3 c s)) rfl rfl h (by omega)
    · have h := h.2 hc
      exact dd_Rn.retK 2 (pc := 20) (ls := [.ref 133, .int a1, .int x1]) (st := [.int (I1 133 4)]) (M := sM Ln I1 L1 c s) (o := (none, .int (I1 133 4), sM Ln I1 L1 c s)) rfl rfl h (by omega)
  · refine dd_Rn.cI 2 (pc := 2) (ls := [.ref 136, .int a1, .null]) (st := [.int a1, .ref 136]) (x := m_X6_hears) (as := [.ref 136, .int a1]) (rest := []) rfl rfl rfl rfl h ?_
    intro x1 I1 L1 h
    show dd_Rn (e + 16) m_X6_goesTo (5, [.ref 136, .int a1, .null], [.int x1], sM Ln I1 L1 c s) _
    refine dd_Rn.ite 4 (c := I1 25 4 = 0) (A := (21, [.ref 136, .int a1, .int x1], [], sM Ln I1 L1 c s)) (B := (16, [.ref 136, .int a1, .int x1], [], sM Ln I1 L1 c s)) rfl (fun hc => ?_) (fun hc => ?_) (by omega)
    · have h := h.1 hc
      refine dd_Rn.ite 1 (c := x1 = 0) (A := (25, [.ref 136, .int a1, .int x1], [], sM Ln I1 L1 c s)) (B := (28, [.ref 136, .int a1, .int x1], [], sM Ln I1 L1 c s)) rfl (fun hc => ?_) (fun hc => ?_) (by omega)
      · have h := h.1 hc
        exact dd_Rn.retK 1 (pc := 27) (ls := [.ref 136, .int a1, .int x1]) (st := [.int (-2)]) (M := sM Ln I1 L1 c s) (o := (none, .int (-2), sM Ln I1 L1 c s)) rfl rfl h (by omega)
      · have h := h.2 hc
        refine dd_Rn.ite 1 (c := a1 = 0) (A := (32, [.ref 136, .int a1, .int x1], [], sM Ln I1 L1 c s)) (B := (46, [.ref 136, .int a1, .int x1], [], sM Ln I1 L1 c s)) rfl (fun hc => ?_) (fun hc => ?_) (by omega)
        · have h := h.1 hc
          refine dd_Rn.cI 4 (pc := 40) (ls := [.ref 136, .int a1, .int x1]) (st := [.int (I1 136 4), .ref 1]) (x := m_X8_stepNearer) (as := [.ref 1, .int (I1 136 4)]) (rest := []) rfl rfl rfl rfl h ?_
          intro x2 I2 L2 h
          show dd_Rn (e + 16) m_X6_goesTo (43, [.ref 136, .int a1, .int x1], [.int x2], sM Ln I2 L2 c s) _
          exact dd_Rn.retK 1 (pc := 58) (ls := [.ref 136, .int a1, .int x1]) (st := [.int x2]) (M := sM Ln I2 L2 c s) (o := (none, .int x2, sM Ln I2 L2 c s)) rfl rfl h (by omega)
        · have h := h.2 hc
          refine dd_Rn.cI 5 (pc := 55) (ls := [.ref 136, .int a1, .int x1]) (st := [.int a1, .int (I1 136 4), .ref 1]) (x := m_X8_stepTo) (as := [.ref 1, .int (I1 136 4), .int a1]) (rest := []) rfl rfl rfl rfl h ?_
          intro x3 I3 L3 h
          show dd_Rn (e + 16) m_X6_goesTo (58, [.ref 136, .int a1, .int x1], [.int x3], sM Ln I3 L3 c s) _
          exact dd_Rn.retK 0 (pc := 58) (ls := [.ref 136, .int a1, .int x1]) (st := [.int x3]) (M := sM Ln I3 L3 c s) (o := (none, .int x3, sM Ln I3 L3 c s)) rfl rfl h (by omega)
    · have h := h.2 hc
      exact dd_Rn.retK 2 (pc := 20) (ls := [.ref 136, .int a1, .int x1]) (st := [.int (I1 136 4)]) (M := sM Ln I1 L1 c s) (o := (none, .int (I1 136 4), sM Ln I1 L1 c s)) rfl rfl h (by omega)

theorem w_X6_beatAhead_0 {Ln d c s : Nat} {I : Nat → Nat → Int32} {L : Nat → Nat → Int64} {Q : dd_O → Prop} {k : Nat} (hd : 28 ≤ d) (hk : k = 133 ∨ k = 136) (h : ((I k 4 = I 1 13 → Q (none, .null, sM Ln (dd_u I (k + 1) (upd (I (k + 1)) 7 (((I (k + 1) 7) + 1) &&& 7))) L c s)) ∧ (¬ (I k 4 = I 1 13) → ((0 ≤ (I (k + 1) 7) &&& 7 ∧ tn ((I (k + 1) 7) &&& 7) < 8) ∧ dd_Ev (d - 1) m_X6_goesTo [.ref k, .int (I (k + 2) (tn ((I (k + 1) 7) &&& 7)))] (sM Ln I L c s) (dd_RI Ln c s (fun x1 I1 L1 => ((x1 = (-2) → Q (none, .null, sM Ln (dd_u I1 (k + 1) (upd (I1 (k + 1)) 7 (((I1 (k + 1) 7) + 1) &&& 7))) L1 c s)) ∧ (¬ (x1 = (-2)) → dd_Ev (d - 1) m_X6_standAt [.ref k, .int x1] (sM Ln I1 L1 c s) (dd_RV Ln c s (fun I2 L2 => Q (none, .null, sM Ln (dd_u I2 (k + 1) (upd (I2 (k + 1)) 7 (((I2 (k + 1) 7) + 1) &&& 7))) L2 c s))))))))))) : dd_Ev d m_X6_beatAhead [.ref k] (sM Ln I L c s) Q := by
  obtain ⟨e, rfl⟩ : ∃ e, d = e + 16 := ⟨d - 16, by omega⟩
  show dd_Rn (e + 16) m_X6_beatAhead (0, [.ref k, .null], [], sM Ln I L c s) Q
  rcases hk with rfl | rfl
  · refine dd_Rn.ite 5 (c := I 133 4 = I 1 13) (A := (34, [.ref 133, .null], [], sM Ln I L c s)) (B := (14, [.ref 133, .null], [], sM Ln I L c s)) rfl (fun hc => ?_) (fun hc => ?_) (by omega)
    · have h := h.1 hc
      exact dd_Rn.retK 12 (pc := 53) (ls := [.ref 133, .null]) (st := []) (M := sM Ln (dd_u I (133 + 1) (upd (I (133 + 1)) 7 (((I (133 + 1) 7) + 1) &&& 7))) L c s) (o := (none, .null, sM Ln (dd_u I (133 + 1) (upd (I (133 + 1)) 7 (((I (133 + 1) 7) + 1) &&& 7))) L c s)) rfl rfl h (by omega)
    · have h := h.2 hc
      refine dd_Rn.sub 2 (pc := 16) (ls := [.ref 133, .null]) (st := [.ref 133, .ref 133]) (M := sM Ln I L c s) (x := m_X6_noteNow) (as := [.ref 133]) (rest := [.ref 133]) rfl rfl rfl rfl ?_
      show dd_Rn (e + 15) m_X6_noteNow (0, [.ref 133], [], sM Ln I L c s) _
      obtain ⟨hc, h⟩ := h
      refine dd_Rn.go 8 (cf' := (14, [.ref 133], [.int ((I (133 + 1) 7) &&& 7), .ref (133 + 2)], sM Ln I L c s)) rfl ?_ (by omega)
      refine dd_Rn.ci (fun j0 => (14, [.ref 133], [.int j0, .ref (133 + 2)], sM Ln I L c s)) (fun j0 => (15, [.ref 133], [.int (I (133 + 2) (tn j0))], sM Ln I L c s)) (fun j0 => 0 ≤ j0 ∧ tn j0 < 8) ((I (133 + 1) 7) &&& 7) (fun j0 hc h => dd_Rn.chk 0 (c := 0 ≤ j0 ∧ tn j0 < 8) (A := (15, [.ref 133], [.int (I (133 + 2) (tn j0))], sM Ln I L c s)) rfl hc h (by omega)) hc ?_
      refine dd_Rn.se (cf := (15, [.ref 133], [.int (I (133 + 2) (tn ((I (133 + 1) 7) &&& 7)))], sM Ln I L c s)) ?_
      refine dd_Rn.retK 0 (pc := 15) (ls := [.ref 133]) (st := [.int (I (133 + 2) (tn ((I (133 + 1) 7) &&& 7)))]) (M := sM Ln I L c s) (o := (none, .int (I (133 + 2) (tn ((I (133 + 1) 7) &&& 7))), sM Ln I L c s)) rfl rfl (dd_Af.ret rfl ?_) (by omega)
      show dd_Rn (e + 16) m_X6_beatAhead (19, [.ref 133, .null], [.int (I (133 + 2) (tn ((I (133 + 1) 7) &&& 7))), .ref 133], sM Ln I L c s) _
      refine dd_Rn.cI 0 (pc := 19) (ls := [.ref 133, .null]) (st := [.int (I (133 + 2) (tn ((I (133 + 1) 7) &&& 7))), .ref 133]) (x := m_X6_goesTo) (as := [.ref 133, .int (I (133 + 2) (tn ((I (133 + 1) 7) &&& 7)))]) (rest := []) rfl rfl rfl rfl h ?_
      intro x1 I1 L1 h
      show dd_Rn (e + 16) m_X6_beatAhead (22, [.ref 133, .null], [.int x1], sM Ln I1 L1 c s) _
      refine dd_Rn.ite 3 (c := x1 = (-2)) (A := (34, [.ref 133, .int x1], [], sM Ln I1 L1 c s)) (B := (29, [.ref 133, .int x1], [], sM Ln I1 L1 c s)) rfl (fun hc => ?_) (fun hc => ?_) (by omega)
      · have h := h.1 hc
        exact dd_Rn.retK 12 (pc := 53) (ls := [.ref 133, .int x1]) (st := []) (M := sM Ln (dd_u I1 (133 + 1) (upd (I1 (133 + 1)) 7 (((I1 (133 + 1) 7) + 1) &&& 7))) L1 c s) (o := (none, .null, sM Ln (dd_u I1 (133 + 1) (upd (I1 (133 + 1)) 7 (((I1 (133 + 1) 7) + 1) &&& 7))) L1 c s)) rfl rfl h (by omega)
      · have h := h.2 hc
        refine dd_Rn.cV 2 (pc := 31) (ls := [.ref 133, .int x1]) (st := [.int x1, .ref 133]) (x := m_X6_standAt) (as := [.ref 133, .int x1]) (rest := []) rfl rfl rfl rfl h ?_
        intro I2 L2 h
        show dd_Rn (e + 16) m_X6_beatAhead (34, [.ref 133, .int x1], [], sM Ln I2 L2 c s) _
        exact dd_Rn.retK 12 (pc := 53) (ls := [.ref 133, .int x1]) (st := []) (M := sM Ln (dd_u I2 (133 + 1) (upd (I2 (133 + 1)) 7 (((I2 (133 + 1) 7) + 1) &&& 7))) L2 c s) (o := (none, .null, sM Ln (dd_u I2 (133 + 1) (upd (I2 (133 + 1)) 7 (((I2 (133 + 1) 7) + 1) &&& 7))) L2 c s)) rfl rfl h (by omega)
  · refine dd_Rn.ite 5 (c := I 136 4 = I 1 13) (A := (34, [.ref 136, .null], [], sM Ln I L c s)) (B := (14, [.ref 136, .null], [], sM Ln I L c s)) rfl (fun hc => ?_) (fun hc => ?_) (by omega)
    · have h := h.1 hc
      exact dd_Rn.retK 12 (pc := 53) (ls := [.ref 136, .null]) (st := []) (M := sM Ln (dd_u I (136 + 1) (upd (I (136 + 1)) 7 (((I (136 + 1) 7) + 1) &&& 7))) L c s) (o := (none, .null, sM Ln (dd_u I (136 + 1) (upd (I (136 + 1)) 7 (((I (136 + 1) 7) + 1) &&& 7))) L c s)) rfl rfl h (by omega)
    · have h := h.2 hc
      refine dd_Rn.sub 2 (pc := 16) (ls := [.ref 136, .null]) (st := [.ref 136, .ref 136]) (M := sM Ln I L c s) (x := m_X6_noteNow) (as := [.ref 136]) (rest := [.ref 136]) rfl rfl rfl rfl ?_
      show dd_Rn (e + 15) m_X6_noteNow (0, [.ref 136], [], sM Ln I L c s) _
      obtain ⟨hc, h⟩ := h
      refine dd_Rn.go 8 (cf' := (14, [.ref 136], [.int ((I (136 + 1) 7) &&& 7), .ref (136 + 2)], sM Ln I L c s)) rfl ?_ (by omega)
      refine dd_Rn.ci (fun j0 => (14, [.ref 136], [.int j0, .ref (136 + 2)], sM Ln I L c s)) (fun j0 => (15, [.ref 136], [.int (I (136 + 2) (tn j0))], sM Ln I L c s)) (fun j0 => 0 ≤ j0 ∧ tn j0 < 8) ((I (136 + 1) 7) &&& 7) (fun j0 hc h => dd_Rn.chk 0 (c := 0 ≤ j0 ∧ tn j0 < 8) (A := (15, [.ref 136], [.int (I (136 + 2) (tn j0))], sM Ln I L c s)) rfl hc h (by omega)) hc ?_
      refine dd_Rn.se (cf := (15, [.ref 136], [.int (I (136 + 2) (tn ((I (136 + 1) 7) &&& 7)))], sM Ln I L c s)) ?_
      refine dd_Rn.retK 0 (pc := 15) (ls := [.ref 136]) (st := [.int (I (136 + 2) (tn ((I (136 + 1) 7) &&& 7)))]) (M := sM Ln I L c s) (o := (none, .int (I (136 + 2) (tn ((I (136 + 1) 7) &&& 7))), sM Ln I L c s)) rfl rfl (dd_Af.ret rfl ?_) (by omega)
      show dd_Rn (e + 16) m_X6_beatAhead (19, [.ref 136, .null], [.int (I (136 + 2) (tn ((I (136 + 1) 7) &&& 7))), .ref 136], sM Ln I L c s) _
      refine dd_Rn.cI 0 (pc := 19) (ls := [.ref 136, .null]) (st := [.int (I (136 + 2) (tn ((I (136 + 1) 7) &&& 7))), .ref 136]) (x := m_X6_goesTo) (as := [.ref 136, .int (I (136 + 2) (tn ((I (136 + 1) 7) &&& 7)))]) (rest := []) rfl rfl rfl rfl h ?_
      intro x1 I1 L1 h
      show dd_Rn (e + 16) m_X6_beatAhead (22, [.ref 136, .null], [.int x1], sM Ln I1 L1 c s) _
      refine dd_Rn.ite 3 (c := x1 = (-2)) (A := (34, [.ref 136, .int x1], [], sM Ln I1 L1 c s)) (B := (29, [.ref 136, .int x1], [], sM Ln I1 L1 c s)) rfl (fun hc => ?_) (fun hc => ?_) (by omega)
      · have h := h.1 hc
        exact dd_Rn.retK 12 (pc := 53) (ls := [.ref 136, .int x1]) (st := []) (M := sM Ln (dd_u I1 (136 + 1) (upd (I1 (136 + 1)) 7 (((I1 (136 + 1) 7) + 1) &&& 7))) L1 c s) (o := (none, .null, sM Ln (dd_u I1 (136 + 1) (upd (I1 (136 + 1)) 7 (((I1 (136 + 1) 7) + 1) &&& 7))) L1 c s)) rfl rfl h (by omega)
      · have h := h.2 hc
        refine dd_Rn.cV 2 (pc := 31) (ls := [.ref 136, .int x1]) (st := [.int x1, .ref 136]) (x := m_X6_standAt) (as := [.ref 136, .int x1]) (rest := []) rfl rfl rfl rfl h ?_
        intro I2 L2 h
        show dd_Rn (e + 16) m_X6_beatAhead (34, [.ref 136, .int x1], [], sM Ln I2 L2 c s) _
        exact dd_Rn.retK 12 (pc := 53) (ls := [.ref 136, .int x1]) (st := []) (M := sM Ln (dd_u I2 (136 + 1) (upd (I2 (136 + 1)) 7 (((I2 (136 + 1) 7) + 1) &&& 7))) L2 c s) (o := (none, .null, sM Ln (dd_u I2 (136 + 1) (upd (I2 (136 + 1)) 7 (((I2 (136 + 1) 7) + 1) &&& 7))) L2 c s)) rfl rfl h (by omega)

theorem w_X6_comesIn_0 {Ln d c s : Nat} {I : Nat → Nat → Int32} {L : Nat → Nat → Int64} {Q : dd_O → Prop} {k : Nat} (hd : 28 ≤ d) (hk : k = 133 ∨ k = 136) (h : dd_Rn d m_X6_comesIn (4, [.ref k, .int (-1), .int 0], [], sM Ln I L c s) Q) : dd_Ev d m_X6_comesIn [.ref k] (sM Ln I L c s) Q := by
  obtain ⟨e, rfl⟩ : ∃ e, d = e + 16 := ⟨d - 16, by omega⟩
  show dd_Rn (e + 16) m_X6_comesIn (0, [.ref k, .null, .null], [], sM Ln I L c s) Q
  rcases hk with rfl | rfl
  · exact dd_Rn.go 4 (cf' := (4, [.ref 133, .int (-1), .int 0], [], sM Ln I L c s)) rfl h (by omega)
  · exact dd_Rn.go 4 (cf' := (4, [.ref 136, .int (-1), .int 0], [], sM Ln I L c s)) rfl h (by omega)

theorem w_X6_comesIn_4 {Ln d c s : Nat} {I : Nat → Nat → Int32} {L : Nat → Nat → Int64} {Q : dd_O → Prop} {k : Nat} {a1 a2 : Int32} (hd : 28 ≤ d) (hk : k = 133 ∨ k = 136) (h : (((100 : Int32) < a2 → Q (none, .int (-1), sM Ln I L c s)) ∧ (¬ ((100 : Int32) < a2) → ((I k 4 = I 1 13 → Q (none, .int a2, sM Ln I L c s)) ∧ (¬ (I k 4 = I 1 13) → ((a2 - a2 / 8 * 8 = 0 → ((I k 4 = a1 → Q (none, .int (-1), sM Ln I L c s)) ∧ (¬ (I k 4 = a1) → dd_Ev (d - 1) m_X6_beatAhead [.ref k] (sM Ln I L c s) (dd_RV Ln c s (fun I1 L1 => dd_Rn d m_X6_comesIn (4, [.ref k, .int (I k 4), .int (a2 + 1)], [], sM Ln I1 L1 c s) Q))))) ∧ (¬ (a2 - a2 / 8 * 8 = 0) → dd_Ev (d - 1) m_X6_beatAhead [.ref k] (sM Ln I L c s) (dd_RV Ln c s (fun I2 L2 => dd_Rn d m_X6_comesIn (4, [.ref k, .int a1, .int (a2 + 1)], [], sM Ln I2 L2 c s) Q))))))))) : dd_Rn d m_X6_comesIn (4, [.ref k, .int a1, .int a2], [], sM Ln I L c s) Q := by
  obtain ⟨e, rfl⟩ : ∃ e, d = e + 16 := ⟨d - 16, by omega⟩
  rcases hk with rfl | rfl
  · refine dd_Rn.ite 2 (c := (100 : Int32) < a2) (A := (58, [.ref 133, .int a1, .int a2], [], sM Ln I L c s)) (B := (10, [.ref 133, .int a1, .int a2], [], sM Ln I L c s)) rfl (fun hc => ?_) (fun hc => ?_) (by omega)
    · have h := h.1 hc
      exact dd_Rn.retK 1 (pc := 59) (ls := [.ref 133, .int a1, .int a2]) (st := [.int (-1)]) (M := sM Ln I L c s) (o := (none, .int (-1), sM Ln I L c s)) rfl rfl h (by omega)
    · have h := h.2 hc
      refine dd_Rn.ite 5 (c := I 133 4 = I 1 13) (A := (24, [.ref 133, .int a1, .int a2], [], sM Ln I L c s)) (B := (26, [.ref 133, .int a1, .int a2], [], sM Ln I L c s)) rfl (fun hc => ?_) (fun hc => ?_) (by omega)
      · have h := h.1 hc
        exact dd_Rn.retK 1 (pc := 25) (ls := [.ref 133, .int a1, .int a2]) (st := [.int a2]) (M := sM Ln I L c s) (o := (none, .int a2, sM Ln I L c s)) rfl rfl h (by omega)
      · have h := h.2 hc
        refine dd_Rn.ite 3 (c := a2 - a2 / 8 * 8 = 0) (A := (33, [.ref 133, .int a1, .int a2], [], sM Ln I L c s)) (B := (48, [.ref 133, .int a1, .int a2], [], sM Ln I L c s)) rfl (fun hc => ?_) (fun hc => ?_) (by omega)
        · have h := h.1 hc
          refine dd_Rn.ite 3 (c := I 133 4 = a1) (A := (41, [.ref 133, .int a1, .int a2], [], sM Ln I L c s)) (B := (43, [.ref 133, .int a1, .int a2], [], sM Ln I L c s)) rfl (fun hc => ?_) (fun hc => ?_) (by omega)
          · have h := h.1 hc
            exact dd_Rn.retK 1 (pc := 42) (ls := [.ref 133, .int a1, .int a2]) (st := [.int (-1)]) (M := sM Ln I L c s) (o := (none, .int (-1), sM Ln I L c s)) rfl rfl h (by omega)
          · have h := h.2 hc
            refine dd_Rn.cV 4 (pc := 49) (ls := [.ref 133, .int (I 133 4), .int a2]) (st := [.ref 133]) (x := m_X6_beatAhead) (as := [.ref 133]) (rest := []) rfl rfl rfl rfl h ?_
            intro I1 L1 h
            show dd_Rn (e + 16) m_X6_comesIn (52, [.ref 133, .int (I 133 4), .int a2], [], sM Ln I1 L1 c s) _
            exact dd_Rn.go 2 (cf' := (4, [.ref 133, .int (I 133 4), .int (a2 + 1)], [], sM Ln I1 L1 c s)) rfl h (by omega)
        · have h := h.2 hc
          refine dd_Rn.cV 1 (pc := 49) (ls := [.ref 133, .int a1, .int a2]) (st := [.ref 133]) (x := m_X6_beatAhead) (as := [.ref 133]) (rest := []) rfl rfl rfl rfl h ?_
          intro I2 L2 h
          show dd_Rn (e + 16) m_X6_comesIn (52, [.ref 133, .int a1, .int a2], [], sM Ln I2 L2 c s) _
          exact dd_Rn.go 2 (cf' := (4, [.ref 133, .int a1, .int (a2 + 1)], [], sM Ln I2 L2 c s)) rfl h (by omega)
  · refine dd_Rn.ite 2 (c := (100 : Int32) < a2) (A := (58, [.ref 136, .int a1, .int a2], [], sM Ln I L c s)) (B := (10, [.ref 136, .int a1, .int a2], [], sM Ln I L c s)) rfl (fun hc => ?_) (fun hc => ?_) (by omega)
    · have h := h.1 hc
      exact dd_Rn.retK 1 (pc := 59) (ls := [.ref 136, .int a1, .int a2]) (st := [.int (-1)]) (M := sM Ln I L c s) (o := (none, .int (-1), sM Ln I L c s)) rfl rfl h (by omega)
    · have h := h.2 hc
      refine dd_Rn.ite 5 (c := I 136 4 = I 1 13) (A := (24, [.ref 136, .int a1, .int a2], [], sM Ln I L c s)) (B := (26, [.ref 136, .int a1, .int a2], [], sM Ln I L c s)) rfl (fun hc => ?_) (fun hc => ?_) (by omega)
      · have h := h.1 hc
        exact dd_Rn.retK 1 (pc := 25) (ls := [.ref 136, .int a1, .int a2]) (st := [.int a2]) (M := sM Ln I L c s) (o := (none, .int a2, sM Ln I L c s)) rfl rfl h (by omega)
      · have h := h.2 hc
        refine dd_Rn.ite 3 (c := a2 - a2 / 8 * 8 = 0) (A := (33, [.ref 136, .int a1, .int a2], [], sM Ln I L c s)) (B := (48, [.ref 136, .int a1, .int a2], [], sM Ln I L c s)) rfl (fun hc => ?_) (fun hc => ?_) (by omega)
        · have h := h.1 hc
          refine dd_Rn.ite 3 (c := I 136 4 = a1) (A := (41, [.ref 136, .int a1, .int a2], [], sM Ln I L c s)) (B := (43, [.ref 136, .int a1, .int a2], [], sM Ln I L c s)) rfl (fun hc => ?_) (fun hc => ?_) (by omega)
          · have h := h.1 hc
            exact dd_Rn.retK 1 (pc := 42) (ls := [.ref 136, .int a1, .int a2]) (st := [.int (-1)]) (M := sM Ln I L c s) (o := (none, .int (-1), sM Ln I L c s)) rfl rfl h (by omega)
          · have h := h.2 hc
            refine dd_Rn.cV 4 (pc := 49) (ls := [.ref 136, .int (I 136 4), .int a2]) (st := [.ref 136]) (x := m_X6_beatAhead) (as := [.ref 136]) (rest := []) rfl rfl rfl rfl h ?_
            intro I1 L1 h
            show dd_Rn (e + 16) m_X6_comesIn (52, [.ref 136, .int (I 136 4), .int a2], [], sM Ln I1 L1 c s) _
            exact dd_Rn.go 2 (cf' := (4, [.ref 136, .int (I 136 4), .int (a2 + 1)], [], sM Ln I1 L1 c s)) rfl h (by omega)
        · have h := h.2 hc
          refine dd_Rn.cV 1 (pc := 49) (ls := [.ref 136, .int a1, .int a2]) (st := [.ref 136]) (x := m_X6_beatAhead) (as := [.ref 136]) (rest := []) rfl rfl rfl rfl h ?_
          intro I2 L2 h
          show dd_Rn (e + 16) m_X6_comesIn (52, [.ref 136, .int a1, .int a2], [], sM Ln I2 L2 c s) _
          exact dd_Rn.go 2 (cf' := (4, [.ref 136, .int a1, .int (a2 + 1)], [], sM Ln I2 L2 c s)) rfl h (by omega)

theorem w_X6_beatNow_0 {Ln d c s : Nat} {I : Nat → Nat → Int32} {L : Nat → Nat → Int64} {Q : dd_O → Prop} {k : Nat} {a1 : Int32} (hd : 28 ≤ d) (hk : k = 133 ∨ k = 136) (h : dd_Ev (d - 1) m_X6_follow [.ref k, .int a1] (sM Ln I L c s) (dd_RV Ln c s (fun I1 L1 => ((0 ≤ (I1 (k + 1) 7) &&& 7 ∧ tn ((I1 (k + 1) 7) &&& 7) < 8) ∧ dd_Ev (d - 1) m_X6_goesTo [.ref k, .int (I1 (k + 2) (tn ((I1 (k + 1) 7) &&& 7)))] (sM Ln I1 L1 c s) (dd_RI Ln c s (fun x2 I2 L2 => ((x2 = (-2) → dd_Ev (d - 1) m_X8_takeDraw [.ref 1] (sM Ln I2 L2 c s) (dd_RI Ln c s (fun x3 I3 L3 => ((I3 1 15 ≤ x3 - x3 / 100 * 100 → ((0 ≤ a1 ∧ tn a1 < 6) ∧ ((I3 4 (tn a1) = I3 1 13 → dd_Ev (d - 1) m_X8_putBoy [.ref 1, .int a1, .int (I3 1 13)] (sM Ln I3 L3 c s) (dd_RV Ln c s (fun I4 L4 => dd_Ev (d - 1) m_X8_writeRow [.ref 1, .int a1, .int 0] (sM Ln I4 L4 c s) (dd_RV Ln c s (fun I5 L5 => Q (none, .int 1, sM Ln I5 L5 c s)))))) ∧ (¬ (I3 4 (tn a1) = I3 1 13) → Q (none, .int 0, sM Ln I3 L3 c s))))) ∧ (¬ (I3 1 15 ≤ x3 - x3 / 100 * 100) → dd_Ev (d - 1) m_X8_takeDraw [.ref 1] (sM Ln I3 L3 c s) (dd_RI Ln c s (fun x6 I6 L6 => dd_Ev (d - 1) m_X8_stepTo [.ref 1, .int (I3 k 4), .int ((1 : Int32) + (x6 - x6 / 4 * 4))] (sM Ln I6 L6 c s) (dd_RI Ln c s (fun x7 I7 L7 => ((0 ≤ a1 ∧ tn a1 < 6) ∧ ((0 ≤ a1 ∧ tn a1 < 6) ∧ ((0 ≤ a1 ∧ tn a1 < 6) ∧ dd_Ev (d - 1) m_X8_writeRow [.ref 1, .int a1, .int 1] (sM Ln (dd_u (dd_u I7 4 (upd (I7 4) (tn a1) x7)) 7 (upd (I7 7) (tn a1) (if (99 : Int32) < (I7 7 (tn a1)) + 1 then 99 else (I7 7 (tn a1)) + 1))) L7 c s) (dd_RV Ln c s (fun I8 L8 => ((0 ≤ a1 ∧ tn a1 < 6) ∧ ((I8 4 (tn a1) = I8 1 13 → dd_Ev (d - 1) m_X8_putBoy [.ref 1, .int a1, .int (I8 1 13)] (sM Ln I8 L8 c s) (dd_RV Ln c s (fun I9 L9 => dd_Ev (d - 1) m_X8_writeRow [.ref 1, .int a1, .int 0] (sM Ln I9 L9 c s) (dd_RV Ln c s (fun I10 L10 => Q (none, .int 1, sM Ln I10 L10 c s)))))) ∧ (¬ (I8 4 (tn a1) = I8 1 13) → Q (none, .int 0, sM Ln I8 L8 c s)))))))))))))))))) ∧ (¬ (x2 = (-2)) → ((0 ≤ a1 ∧ tn a1 < 6) ∧ ((0 ≤ a1 ∧ tn a1 < 6) ∧ (((upd (I2 4) (tn a1) x2) (tn a1) = I2 1 13 → dd_Ev (d - 1) m_X8_putBoy [.ref 1, .int a1, .int (I2 1 13)] (sM Ln (dd_u I2 4 (upd (I2 4) (tn a1) x2)) L2 c s) (dd_RV Ln c s (fun I11 L11 => dd_Ev (d - 1) m_X8_writeRow [.ref 1, .int a1, .int 0] (sM Ln I11 L11 c s) (dd_RV Ln c s (fun I12 L12 => Q (none, .int 1, sM Ln I12 L12 c s)))))) ∧ (¬ ((upd (I2 4) (tn a1) x2) (tn a1) = I2 1 13) → Q (none, .int 0, sM Ln (dd_u I2 4 (upd (I2 4) (tn a1) x2)) L2 c s))))))))))))) : dd_Ev d m_X6_beatNow [.ref k, .int a1] (sM Ln I L c s) Q := by
  obtain ⟨e, rfl⟩ : ∃ e, d = e + 16 := ⟨d - 16, by omega⟩
  show dd_Rn (e + 16) m_X6_beatNow (0, [.ref k, .int a1, .null], [], sM Ln I L c s) Q
  rcases hk with rfl | rfl
  · refine dd_Rn.cV 2 (pc := 2) (ls := [.ref 133, .int a1, .null]) (st := [.int a1, .ref 133]) (x := m_X6_follow) (as := [.ref 133, .int a1]) (rest := []) rfl rfl rfl rfl h ?_
    intro I1 L1 h
    show dd_Rn (e + 16) m_X6_beatNow (5, [.ref 133, .int a1, .null], [], sM Ln I1 L1 c s) _
    refine dd_Rn.sub 2 (pc := 7) (ls := [.ref 133, .int a1, .null]) (st := [.ref 133, .ref 133]) (M := sM Ln I1 L1 c s) (x := m_X6_noteNow) (as := [.ref 133]) (rest := [.ref 133]) rfl rfl rfl rfl ?_
    show dd_Rn (e + 15) m_X6_noteNow (0, [.ref 133], [], sM Ln I1 L1 c s) _
    obtain ⟨hc, h⟩ := h
    refine dd_Rn.go 8 (cf' := (14, [.ref 133], [.int ((I1 (133 + 1) 7) &&& 7), .ref (133 + 2)], sM Ln I1 L1 c s)) rfl ?_ (by omega)
    refine dd_Rn.ci (fun j0 => (14, [.ref 133], [.int j0, .ref (133 + 2)], sM Ln I1 L1 c s)) (fun j0 => (15, [.ref 133], [.int (I1 (133 + 2) (tn j0))], sM Ln I1 L1 c s)) (fun j0 => 0 ≤ j0 ∧ tn j0 < 8) ((I1 (133 + 1) 7) &&& 7) (fun j0 hc h => dd_Rn.chk 0 (c := 0 ≤ j0 ∧ tn j0 < 8) (A := (15, [.ref 133], [.int (I1 (133 + 2) (tn j0))], sM Ln I1 L1 c s)) rfl hc h (by omega)) hc ?_
    refine dd_Rn.se (cf := (15, [.ref 133], [.int (I1 (133 + 2) (tn ((I1 (133 + 1) 7) &&& 7)))], sM Ln I1 L1 c s)) ?_
    refine dd_Rn.retK 0 (pc := 15) (ls := [.ref 133]) (st := [.int (I1 (133 + 2) (tn ((I1 (133 + 1) 7) &&& 7)))]) (M := sM Ln I1 L1 c s) (o := (none, .int (I1 (133 + 2) (tn ((I1 (133 + 1) 7) &&& 7))), sM Ln I1 L1 c s)) rfl rfl (dd_Af.ret rfl ?_) (by omega)
    show dd_Rn (e + 16) m_X6_beatNow (10, [.ref 133, .int a1, .null], [.int (I1 (133 + 2) (tn ((I1 (133 + 1) 7) &&& 7))), .ref 133], sM Ln I1 L1 c s) _
    refine dd_Rn.cI 0 (pc := 10) (ls := [.ref 133, .int a1, .null]) (st := [.int (I1 (133 + 2) (tn ((I1 (133 + 1) 7) &&& 7))), .ref 133]) (x := m_X6_goesTo) (as := [.ref 133, .int (I1 (133 + 2) (tn ((I1 (133 + 1) 7) &&& 7)))]) (rest := []) rfl rfl rfl rfl h ?_
    intro x2 I2 L2 h
    show dd_Rn (e + 16) m_X6_beatNow (13, [.ref 133, .int a1, .null], [.int x2], sM Ln I2 L2 c s) _
    refine dd_Rn.ite 3 (c := x2 = (-2)) (A := (33, [.ref 133, .int a1, .int x2], [], sM Ln I2 L2 c s)) (B := (20, [.ref 133, .int a1, .int x2], [], sM Ln I2 L2 c s)) rfl (fun hc => ?_) (fun hc => ?_) (by omega)
    · have h := h.1 hc
      refine dd_Rn.cI 2 (pc := 37) (ls := [.ref 133, .int a1, .int x2]) (st := [.ref 1]) (x := m_X8_takeDraw) (as := [.ref 1]) (rest := []) rfl rfl rfl rfl h ?_
      intro x3 I3 L3 h
      show dd_Rn (e + 16) m_X6_beatNow (40, [.ref 133, .int a1, .int x2], [.int x3], sM Ln I3 L3 c s) _
      refine dd_Rn.ite 5 (c := I3 1 15 ≤ x3 - x3 / 100 * 100) (A := (118, [.ref 133, .int a1, .int x2], [], sM Ln I3 L3 c s)) (B := (53, [.ref 133, .int a1, .int x2], [], sM Ln I3 L3 c s)) rfl (fun hc => ?_) (fun hc => ?_) (by omega)
      · have h := h.1 hc
        obtain ⟨hc, h⟩ := h
        refine dd_Rn.chk 4 (c := 0 ≤ a1 ∧ tn a1 < 6) (A := (127, [.ref 133, .int a1, .int x2], [.int (I3 4 (tn a1))], sM Ln I3 L3 c s)) rfl hc ?_ (by omega)
        refine dd_Rn.ite 3 (c := I3 4 (tn a1) = I3 1 13) (A := (139, [.ref 133, .int a1, .int x2], [], sM Ln I3 L3 c s)) (B := (137, [.ref 133, .int a1, .int x2], [], sM Ln I3 L3 c s)) rfl (fun hc => ?_) (fun hc => ?_) (by omega)
        · have h := h.1 hc
          refine dd_Rn.cV 6 (pc := 151) (ls := [.ref 133, .int a1, .int x2]) (st := [.int (I3 1 13), .int a1, .ref 1]) (x := m_X8_putBoy) (as := [.ref 1, .int a1, .int (I3 1 13)]) (rest := []) rfl rfl rfl rfl h ?_
          intro I4 L4 h
          show dd_Rn (e + 16) m_X6_beatNow (154, [.ref 133, .int a1, .int x2], [], sM Ln I4 L4 c s) _
          refine dd_Rn.cV 4 (pc := 160) (ls := [.ref 133, .int a1, .int x2]) (st := [.int 0, .int a1, .ref 1]) (x := m_X8_writeRow) (as := [.ref 1, .int a1, .int 0]) (rest := []) rfl rfl rfl rfl h ?_
          intro I5 L5 h
          show dd_Rn (e + 16) m_X6_beatNow (163, [.ref 133, .int a1, .int x2], [], sM Ln I5 L5 c s) _
          exact dd_Rn.retK 1 (pc := 164) (ls := [.ref 133, .int a1, .int x2]) (st := [.int 1]) (M := sM Ln I5 L5 c s) (o := (none, .int 1, sM Ln I5 L5 c s)) rfl rfl h (by omega)
        · have h := h.2 hc
          exact dd_Rn.retK 1 (pc := 138) (ls := [.ref 133, .int a1, .int x2]) (st := [.int 0]) (M := sM Ln I3 L3 c s) (o := (none, .int 0, sM Ln I3 L3 c s)) rfl rfl h (by omega)
      · have h := h.2 hc
        refine dd_Rn.cI 11 (pc := 74) (ls := [.ref 133, .int a1, .int x2]) (st := [.ref 1, .int 1, .int (I3 133 4), .ref 1, .int a1, .ref 4]) (x := m_X8_takeDraw) (as := [.ref 1]) (rest := [.int 1, .int (I3 133 4), .ref 1, .int a1, .ref 4]) rfl rfl rfl rfl h ?_
        intro x6 I6 L6 h
        show dd_Rn (e + 16) m_X6_beatNow (77, [.ref 133, .int a1, .int x2], [.int x6, .int 1, .int (I3 133 4), .ref 1, .int a1, .ref 4], sM Ln I6 L6 c s) _
        refine dd_Rn.cI 3 (pc := 80) (ls := [.ref 133, .int a1, .int x2]) (st := [.int ((1 : Int32) + (x6 - x6 / 4 * 4)), .int (I3 133 4), .ref 1, .int a1, .ref 4]) (x := m_X8_stepTo) (as := [.ref 1, .int (I3 133 4), .int ((1 : Int32) + (x6 - x6 / 4 * 4))]) (rest := [.int a1, .ref 4]) rfl rfl rfl rfl h ?_
        intro x7 I7 L7 h
        show dd_Rn (e + 16) m_X6_beatNow (83, [.ref 133, .int a1, .int x2], [.int x7, .int a1, .ref 4], sM Ln I7 L7 c s) _
        obtain ⟨hc, h⟩ := h
        refine dd_Rn.chk 0 (c := 0 ≤ a1 ∧ tn a1 < 6) (A := (84, [.ref 133, .int a1, .int x2], [], sM Ln (dd_u I7 4 (upd (I7 4) (tn a1) x7)) L7 c s)) rfl hc ?_ (by omega)
        obtain ⟨hc, h⟩ := h
        refine dd_Rn.chk 8 (c := 0 ≤ a1 ∧ tn a1 < 6) (A := (101, [.ref 133, .int a1, .int x2], [.int (I7 7 (tn a1)), .int a1, .ref 7], sM Ln (dd_u I7 4 (upd (I7 4) (tn a1) x7)) L7 c s)) rfl hc ?_ (by omega)
        obtain ⟨hc, h⟩ := h
        refine dd_Rn.chk 4 (c := 0 ≤ a1 ∧ tn a1 < 6) (A := (109, [.ref 133, .int a1, .int x2], [], sM Ln (dd_u (dd_u I7 4 (upd (I7 4) (tn a1) x7)) 7 (upd (I7 7) (tn a1) (if (99 : Int32) < (I7 7 (tn a1)) + 1 then 99 else (I7 7 (tn a1)) + 1))) L7 c s)) rfl hc ?_ (by omega)
        refine dd_Rn.cV 4 (pc := 115) (ls := [.ref 133, .int a1, .int x2]) (st := [.int 1, .int a1, .ref 1]) (x := m_X8_writeRow) (as := [.ref 1, .int a1, .int 1]) (rest := []) rfl rfl rfl rfl h ?_
        intro I8 L8 h
        show dd_Rn (e + 16) m_X6_beatNow (118, [.ref 133, .int a1, .int x2], [], sM Ln I8 L8 c s) _
        obtain ⟨hc, h⟩ := h
        refine dd_Rn.chk 4 (c := 0 ≤ a1 ∧ tn a1 < 6) (A := (127, [.ref 133, .int a1, .int x2], [.int (I8 4 (tn a1))], sM Ln I8 L8 c s)) rfl hc ?_ (by omega)
        refine dd_Rn.ite 3 (c := I8 4 (tn a1) = I8 1 13) (A := (139, [.ref 133, .int a1, .int x2], [], sM Ln I8 L8 c s)) (B := (137, [.ref 133, .int a1, .int x2], [], sM Ln I8 L8 c s)) rfl (fun hc => ?_) (fun hc => ?_) (by omega)
        · have h := h.1 hc
          refine dd_Rn.cV 6 (pc := 151) (ls := [.ref 133, .int a1, .int x2]) (st := [.int (I8 1 13), .int a1, .ref 1]) (x := m_X8_putBoy) (as := [.ref 1, .int a1, .int (I8 1 13)]) (rest := []) rfl rfl rfl rfl h ?_
          intro I9 L9 h
          show dd_Rn (e + 16) m_X6_beatNow (154, [.ref 133, .int a1, .int x2], [], sM Ln I9 L9 c s) _
          refine dd_Rn.cV 4 (pc := 160) (ls := [.ref 133, .int a1, .int x2]) (st := [.int 0, .int a1, .ref 1]) (x := m_X8_writeRow) (as := [.ref 1, .int a1, .int 0]) (rest := []) rfl rfl rfl rfl h ?_
          intro I10 L10 h
          show dd_Rn (e + 16) m_X6_beatNow (163, [.ref 133, .int a1, .int x2], [], sM Ln I10 L10 c s) _
          exact dd_Rn.retK 1 (pc := 164) (ls := [.ref 133, .int a1, .int x2]) (st := [.int 1]) (M := sM Ln I10 L10 c s) (o := (none, .int 1, sM Ln I10 L10 c s)) rfl rfl h (by omega)
        · have h := h.2 hc
          exact dd_Rn.retK 1 (pc := 138) (ls := [.ref 133, .int a1, .int x2]) (st := [.int 0]) (M := sM Ln I8 L8 c s) (o := (none, .int 0, sM Ln I8 L8 c s)) rfl rfl h (by omega)
    · have h := h.2 hc
      obtain ⟨hc, h⟩ := h
      refine dd_Rn.chk 5 (c := 0 ≤ a1 ∧ tn a1 < 6) (A := (30, [.ref 133, .int a1, .int x2], [], sM Ln (dd_u I2 4 (upd (I2 4) (tn a1) x2)) L2 c s)) rfl hc ?_ (by omega)
      obtain ⟨hc, h⟩ := h
      refine dd_Rn.chk 5 (c := 0 ≤ a1 ∧ tn a1 < 6) (A := (127, [.ref 133, .int a1, .int x2], [.int ((upd (I2 4) (tn a1) x2) (tn a1))], sM Ln (dd_u I2 4 (upd (I2 4) (tn a1) x2)) L2 c s)) rfl hc ?_ (by omega)
      refine dd_Rn.ite 3 (c := (upd (I2 4) (tn a1) x2) (tn a1) = I2 1 13) (A := (139, [.ref 133, .int a1, .int x2], [], sM Ln (dd_u I2 4 (upd (I2 4) (tn a1) x2)) L2 c s)) (B := (137, [.ref 133, .int a1, .int x2], [], sM Ln (dd_u I2 4 (upd (I2 4) (tn a1) x2)) L2 c s)) rfl (fun hc => ?_) (fun hc => ?_) (by omega)
      · have h := h.1 hc
        refine dd_Rn.cV 6 (pc := 151) (ls := [.ref 133, .int a1, .int x2]) (st := [.int (I2 1 13), .int a1, .ref 1]) (x := m_X8_putBoy) (as := [.ref 1, .int a1, .int (I2 1 13)]) (rest := []) rfl rfl rfl rfl h ?_
        intro I11 L11 h
        show dd_Rn (e + 16) m_X6_beatNow (154, [.ref 133, .int a1, .int x2], [], sM Ln I11 L11 c s) _
        refine dd_Rn.cV 4 (pc := 160) (ls := [.ref 133, .int a1, .int x2]) (st := [.int 0, .int a1, .ref 1]) (x := m_X8_writeRow) (as := [.ref 1, .int a1, .int 0]) (rest := []) rfl rfl rfl rfl h ?_
        intro I12 L12 h
        show dd_Rn (e + 16) m_X6_beatNow (163, [.ref 133, .int a1, .int x2], [], sM Ln I12 L12 c s) _
        exact dd_Rn.retK 1 (pc := 164) (ls := [.ref 133, .int a1, .int x2]) (st := [.int 1]) (M := sM Ln I12 L12 c s) (o := (none, .int 1, sM Ln I12 L12 c s)) rfl rfl h (by omega)
      · have h := h.2 hc
        exact dd_Rn.retK 1 (pc := 138) (ls := [.ref 133, .int a1, .int x2]) (st := [.int 0]) (M := sM Ln (dd_u I2 4 (upd (I2 4) (tn a1) x2)) L2 c s) (o := (none, .int 0, sM Ln (dd_u I2 4 (upd (I2 4) (tn a1) x2)) L2 c s)) rfl rfl h (by omega)
  · refine dd_Rn.cV 2 (pc := 2) (ls := [.ref 136, .int a1, .null]) (st := [.int a1, .ref 136]) (x := m_X6_follow) (as := [.ref 136, .int a1]) (rest := []) rfl rfl rfl rfl h ?_
    intro I1 L1 h
    show dd_Rn (e + 16) m_X6_beatNow (5, [.ref 136, .int a1, .null], [], sM Ln I1 L1 c s) _
    refine dd_Rn.sub 2 (pc := 7) (ls := [.ref 136, .int a1, .null]) (st := [.ref 136, .ref 136]) (M := sM Ln I1 L1 c s) (x := m_X6_noteNow) (as := [.ref 136]) (rest := [.ref 136]) rfl rfl rfl rfl ?_
    show dd_Rn (e + 15) m_X6_noteNow (0, [.ref 136], [], sM Ln I1 L1 c s) _
    obtain ⟨hc, h⟩ := h
    refine dd_Rn.go 8 (cf' := (14, [.ref 136], [.int ((I1 (136 + 1) 7) &&& 7), .ref (136 + 2)], sM Ln I1 L1 c s)) rfl ?_ (by omega)
    refine dd_Rn.ci (fun j0 => (14, [.ref 136], [.int j0, .ref (136 + 2)], sM Ln I1 L1 c s)) (fun j0 => (15, [.ref 136], [.int (I1 (136 + 2) (tn j0))], sM Ln I1 L1 c s)) (fun j0 => 0 ≤ j0 ∧ tn j0 < 8) ((I1 (136 + 1) 7) &&& 7) (fun j0 hc h => dd_Rn.chk 0 (c := 0 ≤ j0 ∧ tn j0 < 8) (A := (15, [.ref 136], [.int (I1 (136 + 2) (tn j0))], sM Ln I1 L1 c s)) rfl hc h (by omega)) hc ?_
    refine dd_Rn.se (cf := (15, [.ref 136], [.int (I1 (136 + 2) (tn ((I1 (136 + 1) 7) &&& 7)))], sM Ln I1 L1 c s)) ?_
    refine dd_Rn.retK 0 (pc := 15) (ls := [.ref 136]) (st := [.int (I1 (136 + 2) (tn ((I1 (136 + 1) 7) &&& 7)))]) (M := sM Ln I1 L1 c s) (o := (none, .int (I1 (136 + 2) (tn ((I1 (136 + 1) 7) &&& 7))), sM Ln I1 L1 c s)) rfl rfl (dd_Af.ret rfl ?_) (by omega)
    show dd_Rn (e + 16) m_X6_beatNow (10, [.ref 136, .int a1, .null], [.int (I1 (136 + 2) (tn ((I1 (136 + 1) 7) &&& 7))), .ref 136], sM Ln I1 L1 c s) _
    refine dd_Rn.cI 0 (pc := 10) (ls := [.ref 136, .int a1, .null]) (st := [.int (I1 (136 + 2) (tn ((I1 (136 + 1) 7) &&& 7))), .ref 136]) (x := m_X6_goesTo) (as := [.ref 136, .int (I1 (136 + 2) (tn ((I1 (136 + 1) 7) &&& 7)))]) (rest := []) rfl rfl rfl rfl h ?_
    intro x2 I2 L2 h
    show dd_Rn (e + 16) m_X6_beatNow (13, [.ref 136, .int a1, .null], [.int x2], sM Ln I2 L2 c s) _
    refine dd_Rn.ite 3 (c := x2 = (-2)) (A := (33, [.ref 136, .int a1, .int x2], [], sM Ln I2 L2 c s)) (B := (20, [.ref 136, .int a1, .int x2], [], sM Ln I2 L2 c s)) rfl (fun hc => ?_) (fun hc => ?_) (by omega)
    · have h := h.1 hc
      refine dd_Rn.cI 2 (pc := 37) (ls := [.ref 136, .int a1, .int x2]) (st := [.ref 1]) (x := m_X8_takeDraw) (as := [.ref 1]) (rest := []) rfl rfl rfl rfl h ?_
      intro x3 I3 L3 h
      show dd_Rn (e + 16) m_X6_beatNow (40, [.ref 136, .int a1, .int x2], [.int x3], sM Ln I3 L3 c s) _
      refine dd_Rn.ite 5 (c := I3 1 15 ≤ x3 - x3 / 100 * 100) (A := (118, [.ref 136, .int a1, .int x2], [], sM Ln I3 L3 c s)) (B := (53, [.ref 136, .int a1, .int x2], [], sM Ln I3 L3 c s)) rfl (fun hc => ?_) (fun hc => ?_) (by omega)
      · have h := h.1 hc
        obtain ⟨hc, h⟩ := h
        refine dd_Rn.chk 4 (c := 0 ≤ a1 ∧ tn a1 < 6) (A := (127, [.ref 136, .int a1, .int x2], [.int (I3 4 (tn a1))], sM Ln I3 L3 c s)) rfl hc ?_ (by omega)
        refine dd_Rn.ite 3 (c := I3 4 (tn a1) = I3 1 13) (A := (139, [.ref 136, .int a1, .int x2], [], sM Ln I3 L3 c s)) (B := (137, [.ref 136, .int a1, .int x2], [], sM Ln I3 L3 c s)) rfl (fun hc => ?_) (fun hc => ?_) (by omega)
        · have h := h.1 hc
          refine dd_Rn.cV 6 (pc := 151) (ls := [.ref 136, .int a1, .int x2]) (st := [.int (I3 1 13), .int a1, .ref 1]) (x := m_X8_putBoy) (as := [.ref 1, .int a1, .int (I3 1 13)]) (rest := []) rfl rfl rfl rfl h ?_
          intro I4 L4 h
          show dd_Rn (e + 16) m_X6_beatNow (154, [.ref 136, .int a1, .int x2], [], sM Ln I4 L4 c s) _
          refine dd_Rn.cV 4 (pc := 160) (ls := [.ref 136, .int a1, .int x2]) (st := [.int 0, .int a1, .ref 1]) (x := m_X8_writeRow) (as := [.ref 1, .int a1, .int 0]) (rest := []) rfl rfl rfl rfl h ?_
          intro I5 L5 h
          show dd_Rn (e + 16) m_X6_beatNow (163, [.ref 136, .int a1, .int x2], [], sM Ln I5 L5 c s) _
          exact dd_Rn.retK 1 (pc := 164) (ls := [.ref 136, .int a1, .int x2]) (st := [.int 1]) (M := sM Ln I5 L5 c s) (o := (none, .int 1, sM Ln I5 L5 c s)) rfl rfl h (by omega)
        · have h := h.2 hc
          exact dd_Rn.retK 1 (pc := 138) (ls := [.ref 136, .int a1, .int x2]) (st := [.int 0]) (M := sM Ln I3 L3 c s) (o := (none, .int 0, sM Ln I3 L3 c s)) rfl rfl h (by omega)
      · have h := h.2 hc
        refine dd_Rn.cI 11 (pc := 74) (ls := [.ref 136, .int a1, .int x2]) (st := [.ref 1, .int 1, .int (I3 136 4), .ref 1, .int a1, .ref 4]) (x := m_X8_takeDraw) (as := [.ref 1]) (rest := [.int 1, .int (I3 136 4), .ref 1, .int a1, .ref 4]) rfl rfl rfl rfl h ?_
        intro x6 I6 L6 h
        show dd_Rn (e + 16) m_X6_beatNow (77, [.ref 136, .int a1, .int x2], [.int x6, .int 1, .int (I3 136 4), .ref 1, .int a1, .ref 4], sM Ln I6 L6 c s) _
        refine dd_Rn.cI 3 (pc := 80) (ls := [.ref 136, .int a1, .int x2]) (st := [.int ((1 : Int32) + (x6 - x6 / 4 * 4)), .int (I3 136 4), .ref 1, .int a1, .ref 4]) (x := m_X8_stepTo) (as := [.ref 1, .int (I3 136 4), .int ((1 : Int32) + (x6 - x6 / 4 * 4))]) (rest := [.int a1, .ref 4]) rfl rfl rfl rfl h ?_
        intro x7 I7 L7 h
        show dd_Rn (e + 16) m_X6_beatNow (83, [.ref 136, .int a1, .int x2], [.int x7, .int a1, .ref 4], sM Ln I7 L7 c s) _
        obtain ⟨hc, h⟩ := h
        refine dd_Rn.chk 0 (c := 0 ≤ a1 ∧ tn a1 < 6) (A := (84, [.ref 136, .int a1, .int x2], [], sM Ln (dd_u I7 4 (upd (I7 4) (tn a1) x7)) L7 c s)) rfl hc ?_ (by omega)
        obtain ⟨hc, h⟩ := h
        refine dd_Rn.chk 8 (c := 0 ≤ a1 ∧ tn a1 < 6) (A := (101, [.ref 136, .int a1, .int x2], [.int (I7 7 (tn a1)), .int a1, .ref 7], sM Ln (dd_u I7 4 (upd (I7 4) (tn a1) x7)) L7 c s)) rfl hc ?_ (by omega)
        obtain ⟨hc, h⟩ := h
        refine dd_Rn.chk 4 (c := 0 ≤ a1 ∧ tn a1 < 6) (A := (109, [.ref 136, .int a1, .int x2], [], sM Ln (dd_u (dd_u I7 4 (upd (I7 4) (tn a1) x7)) 7 (upd (I7 7) (tn a1) (if (99 : Int32) < (I7 7 (tn a1)) + 1 then 99 else (I7 7 (tn a1)) + 1))) L7 c s)) rfl hc ?_ (by omega)
        refine dd_Rn.cV 4 (pc := 115) (ls := [.ref 136, .int a1, .int x2]) (st := [.int 1, .int a1, .ref 1]) (x := m_X8_writeRow) (as := [.ref 1, .int a1, .int 1]) (rest := []) rfl rfl rfl rfl h ?_
        intro I8 L8 h
        show dd_Rn (e + 16) m_X6_beatNow (118, [.ref 136, .int a1, .int x2], [], sM Ln I8 L8 c s) _
        obtain ⟨hc, h⟩ := h
        refine dd_Rn.chk 4 (c := 0 ≤ a1 ∧ tn a1 < 6) (A := (127, [.ref 136, .int a1, .int x2], [.int (I8 4 (tn a1))], sM Ln I8 L8 c s)) rfl hc ?_ (by omega)
        refine dd_Rn.ite 3 (c := I8 4 (tn a1) = I8 1 13) (A := (139, [.ref 136, .int a1, .int x2], [], sM Ln I8 L8 c s)) (B := (137, [.ref 136, .int a1, .int x2], [], sM Ln I8 L8 c s)) rfl (fun hc => ?_) (fun hc => ?_) (by omega)
        · have h := h.1 hc
          refine dd_Rn.cV 6 (pc := 151) (ls := [.ref 136, .int a1, .int x2]) (st := [.int (I8 1 13), .int a1, .ref 1]) (x := m_X8_putBoy) (as := [.ref 1, .int a1, .int (I8 1 13)]) (rest := []) rfl rfl rfl rfl h ?_
          intro I9 L9 h
          show dd_Rn (e + 16) m_X6_beatNow (154, [.ref 136, .int a1, .int x2], [], sM Ln I9 L9 c s) _
          refine dd_Rn.cV 4 (pc := 160) (ls := [.ref 136, .int a1, .int x2]) (st := [.int 0, .int a1, .ref 1]) (x := m_X8_writeRow) (as := [.ref 1, .int a1, .int 0]) (rest := []) rfl rfl rfl rfl h ?_
          intro I10 L10 h
          show dd_Rn (e + 16) m_X6_beatNow (163, [.ref 136, .int a1, .int x2], [], sM Ln I10 L10 c s) _
          exact dd_Rn.retK 1 (pc := 164) (ls := [.ref 136, .int a1, .int x2]) (st := [.int 1]) (M := sM Ln I10 L10 c s) (o := (none, .int 1, sM Ln I10 L10 c s)) rfl rfl h (by omega)
        · have h := h.2 hc
          exact dd_Rn.retK 1 (pc := 138) (ls := [.ref 136, .int a1, .int x2]) (st := [.int 0]) (M := sM Ln I8 L8 c s) (o := (none, .int 0, sM Ln I8 L8 c s)) rfl rfl h (by omega)
    · have h := h.2 hc
      obtain ⟨hc, h⟩ := h
      refine dd_Rn.chk 5 (c := 0 ≤ a1 ∧ tn a1 < 6) (A := (30, [.ref 136, .int a1, .int x2], [], sM Ln (dd_u I2 4 (upd (I2 4) (tn a1) x2)) L2 c s)) rfl hc ?_ (by omega)
      obtain ⟨hc, h⟩ := h
      refine dd_Rn.chk 5 (c := 0 ≤ a1 ∧ tn a1 < 6) (A := (127, [.ref 136, .int a1, .int x2], [.int ((upd (I2 4) (tn a1) x2) (tn a1))], sM Ln (dd_u I2 4 (upd (I2 4) (tn a1) x2)) L2 c s)) rfl hc ?_ (by omega)
      refine dd_Rn.ite 3 (c := (upd (I2 4) (tn a1) x2) (tn a1) = I2 1 13) (A := (139, [.ref 136, .int a1, .int x2], [], sM Ln (dd_u I2 4 (upd (I2 4) (tn a1) x2)) L2 c s)) (B := (137, [.ref 136, .int a1, .int x2], [], sM Ln (dd_u I2 4 (upd (I2 4) (tn a1) x2)) L2 c s)) rfl (fun hc => ?_) (fun hc => ?_) (by omega)
      · have h := h.1 hc
        refine dd_Rn.cV 6 (pc := 151) (ls := [.ref 136, .int a1, .int x2]) (st := [.int (I2 1 13), .int a1, .ref 1]) (x := m_X8_putBoy) (as := [.ref 1, .int a1, .int (I2 1 13)]) (rest := []) rfl rfl rfl rfl h ?_
        intro I11 L11 h
        show dd_Rn (e + 16) m_X6_beatNow (154, [.ref 136, .int a1, .int x2], [], sM Ln I11 L11 c s) _
        refine dd_Rn.cV 4 (pc := 160) (ls := [.ref 136, .int a1, .int x2]) (st := [.int 0, .int a1, .ref 1]) (x := m_X8_writeRow) (as := [.ref 1, .int a1, .int 0]) (rest := []) rfl rfl rfl rfl h ?_
        intro I12 L12 h
        show dd_Rn (e + 16) m_X6_beatNow (163, [.ref 136, .int a1, .int x2], [], sM Ln I12 L12 c s) _
        exact dd_Rn.retK 1 (pc := 164) (ls := [.ref 136, .int a1, .int x2]) (st := [.int 1]) (M := sM Ln I12 L12 c s) (o := (none, .int 1, sM Ln I12 L12 c s)) rfl rfl h (by omega)
      · have h := h.2 hc
        exact dd_Rn.retK 1 (pc := 138) (ls := [.ref 136, .int a1, .int x2]) (st := [.int 0]) (M := sM Ln (dd_u I2 4 (upd (I2 4) (tn a1) x2)) L2 c s) (o := (none, .int 0, sM Ln (dd_u I2 4 (upd (I2 4) (tn a1) x2)) L2 c s)) rfl rfl h (by omega)

theorem w_J6_numberOfTrailingZeros_0f7a4_0 {Ln d c s : Nat} {I : Nat → Nat → Int32} {L : Nat → Nat → Int64} {Q : dd_O → Prop} {a0 : Int32} (hd : 28 ≤ d) (h : (((0 : Int32) < (a0 ^^^ (-1)) &&& (a0 - 1) → (((a0 ^^^ (-1)) &&& (a0 - 1) ≤ 65536 → (((a0 ^^^ (-1)) &&& (a0 - 1) ≤ 256 → (((a0 ^^^ (-1)) &&& (a0 - 1) ≤ 16 → dd_Rn d m_J6_numberOfTrailingZeros_0f7a4 (62, [.int ((a0 ^^^ (-1)) &&& (a0 - 1)), .int 1], [], sM Ln I L c s) Q) ∧ (¬ ((a0 ^^^ (-1)) &&& (a0 - 1) ≤ 16) → dd_Rn d m_J6_numberOfTrailingZeros_0f7a4 (62, [.int ((((a0 ^^^ (-1)) &&& (a0 - 1)).toUInt32 >>> ((4 : Int32).toUInt32 &&& Int32.toUInt32 31)).toInt32), .int (1 + 4)], [], sM Ln I L c s) Q))) ∧ (¬ ((a0 ^^^ (-1)) &&& (a0 - 1) ≤ 256) → (((((a0 ^^^ (-1)) &&& (a0 - 1)).toUInt32 >>> ((8 : Int32).toUInt32 &&& Int32.toUInt32 31)).toInt32 ≤ 16 → dd_Rn d m_J6_numberOfTrailingZeros_0f7a4 (62, [.int ((((a0 ^^^ (-1)) &&& (a0 - 1)).toUInt32 >>> ((8 : Int32).toUInt32 &&& Int32.toUInt32 31)).toInt32), .int (1 + 8)], [], sM Ln I L c s) Q) ∧ (¬ ((((a0 ^^^ (-1)) &&& (a0 - 1)).toUInt32 >>> ((8 : Int32).toUInt32 &&& Int32.toUInt32 31)).toInt32 ≤ 16) → dd_Rn d m_J6_numberOfTrailingZeros_0f7a4 (62, [.int ((((((a0 ^^^ (-1)) &&& (a0 - 1)).toUInt32 >>> ((8 : Int32).toUInt32 &&& Int32.toUInt32 31)).toInt32).toUInt32 >>> ((4 : Int32).toUInt32 &&& Int32.toUInt32 31)).toInt32), .int ((1 + 8) + 4)], [], sM Ln I L c s) Q))))) ∧ (¬ ((a0 ^^^ (-1)) &&& (a0 - 1) ≤ 65536) → (((((a0 ^^^ (-1)) &&& (a0 - 1)).toUInt32 >>> ((16 : Int32).toUInt32 &&& Int32.toUInt32 31)).toInt32 ≤ 256 → (((((a0 ^^^ (-1)) &&& (a0 - 1)).toUInt32 >>> ((16 : Int32).toUInt32 &&& Int32.toUInt32 31)).toInt32 ≤ 16 → dd_Rn d m_J6_numberOfTrailingZeros_0f7a4 (62, [.int ((((a0 ^^^ (-1)) &&& (a0 - 1)).toUInt32 >>> ((16 : Int32).toUInt32 &&& Int32.toUInt32 31)).toInt32), .int (1 + 16)], [], sM Ln I L c s) Q) ∧ (¬ ((((a0 ^^^ (-1)) &&& (a0 - 1)).toUInt32 >>> ((16 : Int32).toUInt32 &&& Int32.toUInt32 31)).toInt32 ≤ 16) → dd_Rn d m_J6_numberOfTrailingZeros_0f7a4 (62, [.int ((((((a0 ^^^ (-1)) &&& (a0 - 1)).toUInt32 >>> ((16 : Int32).toUInt32 &&& Int32.toUInt32 31)).toInt32).toUInt32 >>> ((4 : Int32).toUInt32 &&& Int32.toUInt32 31)).toInt32), .int ((1 + 16) + 4)], [], sM Ln I L c s) Q))) ∧ (¬ ((((a0 ^^^ (-1)) &&& (a0 - 1)).toUInt32 >>> ((16 : Int32).toUInt32 &&& Int32.toUInt32 31)).toInt32 ≤ 256) → (((((((a0 ^^^ (-1)) &&& (a0 - 1)).toUInt32 >>> ((16 : Int32).toUInt32 &&& Int32.toUInt32 31)).toInt32).toUInt32 >>> ((8 : Int32).toUInt32 &&& Int32.toUInt32 31)).toInt32 ≤ 16 → dd_Rn d m_J6_numberOfTrailingZeros_0f7a4 (62, [.int ((((((a0 ^^^ (-1)) &&& (a0 - 1)).toUInt32 >>> ((16 : Int32).toUInt32 &&& Int32.toUInt32 31)).toInt32).toUInt32 >>> ((8 : Int32).toUInt32 &&& Int32.toUInt32 31)).toInt32), .int ((1 + 16) + 8)], [], sM Ln I L c s) Q) ∧ (¬ ((((((a0 ^^^ (-1)) &&& (a0 - 1)).toUInt32 >>> ((16 : Int32).toUInt32 &&& Int32.toUInt32 31)).toInt32).toUInt32 >>> ((8 : Int32).toUInt32 &&& Int32.toUInt32 31)).toInt32 ≤ 16) → dd_Rn d m_J6_numberOfTrailingZeros_0f7a4 (62, [.int ((((((((a0 ^^^ (-1)) &&& (a0 - 1)).toUInt32 >>> ((16 : Int32).toUInt32 &&& Int32.toUInt32 31)).toInt32).toUInt32 >>> ((8 : Int32).toUInt32 &&& Int32.toUInt32 31)).toInt32).toUInt32 >>> ((4 : Int32).toUInt32 &&& Int32.toUInt32 31)).toInt32), .int (((1 + 16) + 8) + 4)], [], sM Ln I L c s) Q))))))) ∧ (¬ ((0 : Int32) < (a0 ^^^ (-1)) &&& (a0 - 1)) → Q (none, .int (((a0 ^^^ (-1)) &&& (a0 - 1)) &&& 32), sM Ln I L c s)))) : dd_Ev d m_J6_numberOfTrailingZeros_0f7a4 [.int a0] (sM Ln I L c s) Q := by
  obtain ⟨e, rfl⟩ : ∃ e, d = e + 16 := ⟨d - 16, by omega⟩
  show dd_Rn (e + 16) m_J6_numberOfTrailingZeros_0f7a4 (0, [.int a0, .null], [], sM Ln I L c s) Q
  refine dd_Rn.ite 9 (c := (0 : Int32) < (a0 ^^^ (-1)) &&& (a0 - 1)) (A := (17, [.int ((a0 ^^^ (-1)) &&& (a0 - 1)), .null], [], sM Ln I L c s)) (B := (12, [.int ((a0 ^^^ (-1)) &&& (a0 - 1)), .null], [], sM Ln I L c s)) rfl (fun hc => ?_) (fun hc => ?_) (by omega)
  · have h := h.1 hc
    refine dd_Rn.ite 4 (c := (a0 ^^^ (-1)) &&& (a0 - 1) ≤ 65536) (A := (34, [.int ((a0 ^^^ (-1)) &&& (a0 - 1)), .int 1], [], sM Ln I L c s)) (B := (26, [.int ((a0 ^^^ (-1)) &&& (a0 - 1)), .int 1], [], sM Ln I L c s)) rfl (fun hc => ?_) (fun hc => ?_) (by omega)
    · have h := h.1 hc
      refine dd_Rn.ite 2 (c := (a0 ^^^ (-1)) &&& (a0 - 1) ≤ 256) (A := (49, [.int ((a0 ^^^ (-1)) &&& (a0 - 1)), .int 1], [], sM Ln I L c s)) (B := (41, [.int ((a0 ^^^ (-1)) &&& (a0 - 1)), .int 1], [], sM Ln I L c s)) rfl (fun hc => ?_) (fun hc => ?_) (by omega)
      · have h := h.1 hc
        refine dd_Rn.ite 2 (c := (a0 ^^^ (-1)) &&& (a0 - 1) ≤ 16) (A := (62, [.int ((a0 ^^^ (-1)) &&& (a0 - 1)), .int 1], [], sM Ln I L c s)) (B := (55, [.int ((a0 ^^^ (-1)) &&& (a0 - 1)), .int 1], [], sM Ln I L c s)) rfl (fun hc => ?_) (fun hc => ?_) (by omega)
        · have h := h.1 hc
          exact dd_Rn.go 0 (cf' := (62, [.int ((a0 ^^^ (-1)) &&& (a0 - 1)), .int 1], [], sM Ln I L c s)) rfl h (by omega)
        · have h := h.2 hc
          exact dd_Rn.go 5 (cf' := (62, [.int ((((a0 ^^^ (-1)) &&& (a0 - 1)).toUInt32 >>> ((4 : Int32).toUInt32 &&& Int32.toUInt32 31)).toInt32), .int (1 + 4)], [], sM Ln I L c s)) rfl h (by omega)
      · have h := h.2 hc
        refine dd_Rn.ite 7 (c := (((a0 ^^^ (-1)) &&& (a0 - 1)).toUInt32 >>> ((8 : Int32).toUInt32 &&& Int32.toUInt32 31)).toInt32 ≤ 16) (A := (62, [.int ((((a0 ^^^ (-1)) &&& (a0 - 1)).toUInt32 >>> ((8 : Int32).toUInt32 &&& Int32.toUInt32 31)).toInt32), .int (1 + 8)], [], sM Ln I L c s)) (B := (55, [.int ((((a0 ^^^ (-1)) &&& (a0 - 1)).toUInt32 >>> ((8 : Int32).toUInt32 &&& Int32.toUInt32 31)).toInt32), .int (1 + 8)], [], sM Ln I L c s)) rfl (fun hc => ?_) (fun hc => ?_) (by omega)
        · have h := h.1 hc
          exact dd_Rn.go 0 (cf' := (62, [.int ((((a0 ^^^ (-1)) &&& (a0 - 1)).toUInt32 >>> ((8 : Int32).toUInt32 &&& Int32.toUInt32 31)).toInt32), .int (1 + 8)], [], sM Ln I L c s)) rfl h (by omega)
        · have h := h.2 hc
          exact dd_Rn.go 5 (cf' := (62, [.int ((((((a0 ^^^ (-1)) &&& (a0 - 1)).toUInt32 >>> ((8 : Int32).toUInt32 &&& Int32.toUInt32 31)).toInt32).toUInt32 >>> ((4 : Int32).toUInt32 &&& Int32.toUInt32 31)).toInt32), .int ((1 + 8) + 4)], [], sM Ln I L c s)) rfl h (by omega)
    · have h := h.2 hc
      refine dd_Rn.ite 7 (c := (((a0 ^^^ (-1)) &&& (a0 - 1)).toUInt32 >>> ((16 : Int32).toUInt32 &&& Int32.toUInt32 31)).toInt32 ≤ 256) (A := (49, [.int ((((a0 ^^^ (-1)) &&& (a0 - 1)).toUInt32 >>> ((16 : Int32).toUInt32 &&& Int32.toUInt32 31)).toInt32), .int (1 + 16)], [], sM Ln I L c s)) (B := (41, [.int ((((a0 ^^^ (-1)) &&& (a0 - 1)).toUInt32 >>> ((16 : Int32).toUInt32 &&& Int32.toUInt32 31)).toInt32), .int (1 + 16)], [], sM Ln I L c s)) rfl (fun hc => ?_) (fun hc => ?_) (by omega)
      · have h := h.1 hc
        refine dd_Rn.ite 2 (c := (((a0 ^^^ (-1)) &&& (a0 - 1)).toUInt32 >>> ((16 : Int32).toUInt32 &&& Int32.toUInt32 31)).toInt32 ≤ 16) (A := (62, [.int ((((a0 ^^^ (-1)) &&& (a0 - 1)).toUInt32 >>> ((16 : Int32).toUInt32 &&& Int32.toUInt32 31)).toInt32), .int (1 + 16)], [], sM Ln I L c s)) (B := (55, [.int ((((a0 ^^^ (-1)) &&& (a0 - 1)).toUInt32 >>> ((16 : Int32).toUInt32 &&& Int32.toUInt32 31)).toInt32), .int (1 + 16)], [], sM Ln I L c s)) rfl (fun hc => ?_) (fun hc => ?_) (by omega)
        · have h := h.1 hc
          exact dd_Rn.go 0 (cf' := (62, [.int ((((a0 ^^^ (-1)) &&& (a0 - 1)).toUInt32 >>> ((16 : Int32).toUInt32 &&& Int32.toUInt32 31)).toInt32), .int (1 + 16)], [], sM Ln I L c s)) rfl h (by omega)
        · have h := h.2 hc
          exact dd_Rn.go 5 (cf' := (62, [.int ((((((a0 ^^^ (-1)) &&& (a0 - 1)).toUInt32 >>> ((16 : Int32).toUInt32 &&& Int32.toUInt32 31)).toInt32).toUInt32 >>> ((4 : Int32).toUInt32 &&& Int32.toUInt32 31)).toInt32), .int ((1 + 16) + 4)], [], sM Ln I L c s)) rfl h (by omega)
      · have h := h.2 hc
        refine dd_Rn.ite 7 (c := (((((a0 ^^^ (-1)) &&& (a0 - 1)).toUInt32 >>> ((16 : Int32).toUInt32 &&& Int32.toUInt32 31)).toInt32).toUInt32 >>> ((8 : Int32).toUInt32 &&& Int32.toUInt32 31)).toInt32 ≤ 16) (A := (62, [.int ((((((a0 ^^^ (-1)) &&& (a0 - 1)).toUInt32 >>> ((16 : Int32).toUInt32 &&& Int32.toUInt32 31)).toInt32).toUInt32 >>> ((8 : Int32).toUInt32 &&& Int32.toUInt32 31)).toInt32), .int ((1 + 16) + 8)], [], sM Ln I L c s)) (B := (55, [.int ((((((a0 ^^^ (-1)) &&& (a0 - 1)).toUInt32 >>> ((16 : Int32).toUInt32 &&& Int32.toUInt32 31)).toInt32).toUInt32 >>> ((8 : Int32).toUInt32 &&& Int32.toUInt32 31)).toInt32), .int ((1 + 16) + 8)], [], sM Ln I L c s)) rfl (fun hc => ?_) (fun hc => ?_) (by omega)
        · have h := h.1 hc
          exact dd_Rn.go 0 (cf' := (62, [.int ((((((a0 ^^^ (-1)) &&& (a0 - 1)).toUInt32 >>> ((16 : Int32).toUInt32 &&& Int32.toUInt32 31)).toInt32).toUInt32 >>> ((8 : Int32).toUInt32 &&& Int32.toUInt32 31)).toInt32), .int ((1 + 16) + 8)], [], sM Ln I L c s)) rfl h (by omega)
        · have h := h.2 hc
          exact dd_Rn.go 5 (cf' := (62, [.int ((((((((a0 ^^^ (-1)) &&& (a0 - 1)).toUInt32 >>> ((16 : Int32).toUInt32 &&& Int32.toUInt32 31)).toInt32).toUInt32 >>> ((8 : Int32).toUInt32 &&& Int32.toUInt32 31)).toInt32).toUInt32 >>> ((4 : Int32).toUInt32 &&& Int32.toUInt32 31)).toInt32), .int (((1 + 16) + 8) + 4)], [], sM Ln I L c s)) rfl h (by omega)
  · have h := h.2 hc
    exact dd_Rn.retK 3 (pc := 16) (ls := [.int ((a0 ^^^ (-1)) &&& (a0 - 1)), .null]) (st := [.int (((a0 ^^^ (-1)) &&& (a0 - 1)) &&& 32)]) (M := sM Ln I L c s) (o := (none, .int (((a0 ^^^ (-1)) &&& (a0 - 1)) &&& 32), sM Ln I L c s)) rfl rfl h (by omega)

theorem w_J6_numberOfTrailingZeros_0f7a4_62 {Ln d c s : Nat} {I : Nat → Nat → Int32} {L : Nat → Nat → Int64} {Q : dd_O → Prop} {a0 a1 : Int32} (hd : 28 ≤ d) (h : ((a0 ≤ 4 → dd_Rn d m_J6_numberOfTrailingZeros_0f7a4 (74, [.int a0, .int a1], [], sM Ln I L c s) Q) ∧ (¬ (a0 ≤ 4) → dd_Rn d m_J6_numberOfTrailingZeros_0f7a4 (74, [.int ((a0.toUInt32 >>> ((2 : Int32).toUInt32 &&& Int32.toUInt32 31)).toInt32), .int (a1 + 2)], [], sM Ln I L c s) Q))) : dd_Rn d m_J6_numberOfTrailingZeros_0f7a4 (62, [.int a0, .int a1], [], sM Ln I L c s) Q := by
  obtain ⟨e, rfl⟩ : ∃ e, d = e + 16 := ⟨d - 16, by omega⟩
  refine dd_Rn.ite 2 (c := a0 ≤ 4) (A := (74, [.int a0, .int a1], [], sM Ln I L c s)) (B := (67, [.int a0, .int a1], [], sM Ln I L c s)) rfl (fun hc => ?_) (fun hc => ?_) (by omega)
  · have h := h.1 hc
    exact dd_Rn.go 0 (cf' := (74, [.int a0, .int a1], [], sM Ln I L c s)) rfl h (by omega)
  · have h := h.2 hc
    exact dd_Rn.go 5 (cf' := (74, [.int ((a0.toUInt32 >>> ((2 : Int32).toUInt32 &&& Int32.toUInt32 31)).toInt32), .int (a1 + 2)], [], sM Ln I L c s)) rfl h (by omega)

theorem w_J6_numberOfTrailingZeros_0f7a4_74 {Ln d c s : Nat} {I : Nat → Nat → Int32} {L : Nat → Nat → Int64} {Q : dd_O → Prop} {a0 a1 : Int32} (hd : 28 ≤ d) (h : Q (none, .int (a1 + ((a0.toUInt32 >>> ((1 : Int32).toUInt32 &&& Int32.toUInt32 31)).toInt32)), sM Ln I L c s)) : dd_Rn d m_J6_numberOfTrailingZeros_0f7a4 (74, [.int a0, .int a1], [], sM Ln I L c s) Q := by
  obtain ⟨e, rfl⟩ : ∃ e, d = e + 16 := ⟨d - 16, by omega⟩
  exact dd_Rn.retK 5 (pc := 79) (ls := [.int a0, .int a1]) (st := [.int (a1 + ((a0.toUInt32 >>> ((1 : Int32).toUInt32 &&& Int32.toUInt32 31)).toInt32))]) (M := sM Ln I L c s) (o := (none, .int (a1 + ((a0.toUInt32 >>> ((1 : Int32).toUInt32 &&& Int32.toUInt32 31)).toInt32)), sM Ln I L c s)) rfl rfl h (by omega)

theorem w_J6_bitCount_0f7a4_0 {Ln d c s : Nat} {I : Nat → Nat → Int32} {L : Nat → Nat → Int64} {Q : dd_O → Prop} {a0 : Int32} (hd : 28 ≤ d) (h : Q (none, .int ((((((((a0 - (((a0.toUInt32 >>> ((1 : Int32).toUInt32 &&& Int32.toUInt32 31)).toInt32) &&& (1431655765 : Int32))) &&& (858993459 : Int32)) + ((((a0 - (((a0.toUInt32 >>> ((1 : Int32).toUInt32 &&& Int32.toUInt32 31)).toInt32) &&& (1431655765 : Int32))).toUInt32 >>> ((2 : Int32).toUInt32 &&& Int32.toUInt32 31)).toInt32) &&& (858993459 : Int32))) + (((((a0 - (((a0.toUInt32 >>> ((1 : Int32).toUInt32 &&& Int32.toUInt32 31)).toInt32) &&& (1431655765 : Int32))) &&& (858993459 : Int32)) + ((((a0 - (((a0.toUInt32 >>> ((1 : Int32).toUInt32 &&& Int32.toUInt32 31)).toInt32) &&& (1431655765 : Int32))).toUInt32 >>> ((2 : Int32).toUInt32 &&& Int32.toUInt32 31)).toInt32) &&& (858993459 : Int32))).toUInt32 >>> ((4 : Int32).toUInt32 &&& Int32.toUInt32 31)).toInt32)) &&& (252645135 : Int32)) + (((((((a0 - (((a0.toUInt32 >>> ((1 : Int32).toUInt32 &&& Int32.toUInt32 31)).toInt32) &&& (1431655765 : Int32))) &&& (858993459 : Int32)) + ((((a0 - (((a0.toUInt32 >>> ((1 : Int32).toUInt32 &&& Int32.toUInt32 31)).toInt32) &&& (1431655765 : Int32))).toUInt32 >>> ((2 : Int32).toUInt32 &&& Int32.toUInt32 31)).toInt32) &&& (858993459 : Int32))) + (((((a0 - (((a0.toUInt32 >>> ((1 : Int32).toUInt32 &&& Int32.toUInt32 31)).toInt32) &&& (1431655765 : Int32))) &&& (858993459 : Int32)) + ((((a0 - (((a0.toUInt32 >>> ((1 : Int32).toUInt32 &&& Int32.toUInt32 31)).toInt32) &&& (1431655765 : Int32))).toUInt32 >>> ((2 : Int32).toUInt32 &&& Int32.toUInt32 31)).toInt32) &&& (858993459 : Int32))).toUInt32 >>> ((4 : Int32).toUInt32 &&& Int32.toUInt32 31)).toInt32)) &&& (252645135 : Int32)).toUInt32 >>> ((8 : Int32).toUInt32 &&& Int32.toUInt32 31)).toInt32)) + ((((((((a0 - (((a0.toUInt32 >>> ((1 : Int32).toUInt32 &&& Int32.toUInt32 31)).toInt32) &&& (1431655765 : Int32))) &&& (858993459 : Int32)) + ((((a0 - (((a0.toUInt32 >>> ((1 : Int32).toUInt32 &&& Int32.toUInt32 31)).toInt32) &&& (1431655765 : Int32))).toUInt32 >>> ((2 : Int32).toUInt32 &&& Int32.toUInt32 31)).toInt32) &&& (858993459 : Int32))) + (((((a0 - (((a0.toUInt32 >>> ((1 : Int32).toUInt32 &&& Int32.toUInt32 31)).toInt32) &&& (1431655765 : Int32))) &&& (858993459 : Int32)) + ((((a0 - (((a0.toUInt32 >>> ((1 : Int32).toUInt32 &&& Int32.toUInt32 31)).toInt32) &&& (1431655765 : Int32))).toUInt32 >>> ((2 : Int32).toUInt32 &&& Int32.toUInt32 31)).toInt32) &&& (858993459 : Int32))).toUInt32 >>> ((4 : Int32).toUInt32 &&& Int32.toUInt32 31)).toInt32)) &&& (252645135 : Int32)) + (((((((a0 - (((a0.toUInt32 >>> ((1 : Int32).toUInt32 &&& Int32.toUInt32 31)).toInt32) &&& (1431655765 : Int32))) &&& (858993459 : Int32)) + ((((a0 - (((a0.toUInt32 >>> ((1 : Int32).toUInt32 &&& Int32.toUInt32 31)).toInt32) &&& (1431655765 : Int32))).toUInt32 >>> ((2 : Int32).toUInt32 &&& Int32.toUInt32 31)).toInt32) &&& (858993459 : Int32))) + (((((a0 - (((a0.toUInt32 >>> ((1 : Int32).toUInt32 &&& Int32.toUInt32 31)).toInt32) &&& (1431655765 : Int32))) &&& (858993459 : Int32)) + ((((a0 - (((a0.toUInt32 >>> ((1 : Int32).toUInt32 &&& Int32.toUInt32 31)).toInt32) &&& (1431655765 : Int32))).toUInt32 >>> ((2 : Int32).toUInt32 &&& Int32.toUInt32 31)).toInt32) &&& (858993459 : Int32))).toUInt32 >>> ((4 : Int32).toUInt32 &&& Int32.toUInt32 31)).toInt32)) &&& (252645135 : Int32)).toUInt32 >>> ((8 : Int32).toUInt32 &&& Int32.toUInt32 31)).toInt32)).toUInt32 >>> ((16 : Int32).toUInt32 &&& Int32.toUInt32 31)).toInt32)) &&& (63 : Int32)), sM Ln I L c s)) : dd_Ev d m_J6_bitCount_0f7a4 [.int a0] (sM Ln I L c s) Q := by
  obtain ⟨e, rfl⟩ : ∃ e, d = e + 16 := ⟨d - 16, by omega⟩
  show dd_Rn (e + 16) m_J6_bitCount_0f7a4 (0, [.int a0], [], sM Ln I L c s) Q
  exact dd_Rn.retK 41 (pc := 52) (ls := [.int (((((((a0 - (((a0.toUInt32 >>> ((1 : Int32).toUInt32 &&& Int32.toUInt32 31)).toInt32) &&& (1431655765 : Int32))) &&& (858993459 : Int32)) + ((((a0 - (((a0.toUInt32 >>> ((1 : Int32).toUInt32 &&& Int32.toUInt32 31)).toInt32) &&& (1431655765 : Int32))).toUInt32 >>> ((2 : Int32).toUInt32 &&& Int32.toUInt32 31)).toInt32) &&& (858993459 : Int32))) + (((((a0 - (((a0.toUInt32 >>> ((1 : Int32).toUInt32 &&& Int32.toUInt32 31)).toInt32) &&& (1431655765 : Int32))) &&& (858993459 : Int32)) + ((((a0 - (((a0.toUInt32 >>> ((1 : Int32).toUInt32 &&& Int32.toUInt32 31)).toInt32) &&& (1431655765 : Int32))).toUInt32 >>> ((2 : Int32).toUInt32 &&& Int32.toUInt32 31)).toInt32) &&& (858993459 : Int32))).toUInt32 >>> ((4 : Int32).toUInt32 &&& Int32.toUInt32 31)).toInt32)) &&& (252645135 : Int32)) + (((((((a0 - (((a0.toUInt32 >>> ((1 : Int32).toUInt32 &&& Int32.toUInt32 31)).toInt32) &&& (1431655765 : Int32))) &&& (858993459 : Int32)) + ((((a0 - (((a0.toUInt32 >>> ((1 : Int32).toUInt32 &&& Int32.toUInt32 31)).toInt32) &&& (1431655765 : Int32))).toUInt32 >>> ((2 : Int32).toUInt32 &&& Int32.toUInt32 31)).toInt32) &&& (858993459 : Int32))) + (((((a0 - (((a0.toUInt32 >>> ((1 : Int32).toUInt32 &&& Int32.toUInt32 31)).toInt32) &&& (1431655765 : Int32))) &&& (858993459 : Int32)) + ((((a0 - (((a0.toUInt32 >>> ((1 : Int32).toUInt32 &&& Int32.toUInt32 31)).toInt32) &&& (1431655765 : Int32))).toUInt32 >>> ((2 : Int32).toUInt32 &&& Int32.toUInt32 31)).toInt32) &&& (858993459 : Int32))).toUInt32 >>> ((4 : Int32).toUInt32 &&& Int32.toUInt32 31)).toInt32)) &&& (252645135 : Int32)).toUInt32 >>> ((8 : Int32).toUInt32 &&& Int32.toUInt32 31)).toInt32)) + ((((((((a0 - (((a0.toUInt32 >>> ((1 : Int32).toUInt32 &&& Int32.toUInt32 31)).toInt32) &&& (1431655765 : Int32))) &&& (858993459 : Int32)) + ((((a0 - (((a0.toUInt32 >>> ((1 : Int32).toUInt32 &&& Int32.toUInt32 31)).toInt32) &&& (1431655765 : Int32))).toUInt32 >>> ((2 : Int32).toUInt32 &&& Int32.toUInt32 31)).toInt32) &&& (858993459 : Int32))) + (((((a0 - (((a0.toUInt32 >>> ((1 : Int32).toUInt32 &&& Int32.toUInt32 31)).toInt32) &&& (1431655765 : Int32))) &&& (858993459 : Int32)) + ((((a0 - (((a0.toUInt32 >>> ((1 : Int32).toUInt32 &&& Int32.toUInt32 31)).toInt32) &&& (1431655765 : Int32))).toUInt32 >>> ((2 : Int32).toUInt32 &&& Int32.toUInt32 31)).toInt32) &&& (858993459 : Int32))).toUInt32 >>> ((4 : Int32).toUInt32 &&& Int32.toUInt32 31)).toInt32)) &&& (252645135 : Int32)) + (((((((a0 - (((a0.toUInt32 >>> ((1 : Int32).toUInt32 &&& Int32.toUInt32 31)).toInt32) &&& (1431655765 : Int32))) &&& (858993459 : Int32)) + ((((a0 - (((a0.toUInt32 >>> ((1 : Int32).toUInt32 &&& Int32.toUInt32 31)).toInt32) &&& (1431655765 : Int32))).toUInt32 >>> ((2 : Int32).toUInt32 &&& Int32.toUInt32 31)).toInt32) &&& (858993459 : Int32))) + (((((a0 - (((a0.toUInt32 >>> ((1 : Int32).toUInt32 &&& Int32.toUInt32 31)).toInt32) &&& (1431655765 : Int32))) &&& (858993459 : Int32)) + ((((a0 - (((a0.toUInt32 >>> ((1 : Int32).toUInt32 &&& Int32.toUInt32 31)).toInt32) &&& (1431655765 : Int32))).toUInt32 >>> ((2 : Int32).toUInt32 &&& Int32.toUInt32 31)).toInt32) &&& (858993459 : Int32))).toUInt32 >>> ((4 : Int32).toUInt32 &&& Int32.toUInt32 31)).toInt32)) &&& (252645135 : Int32)).toUInt32 >>> ((8 : Int32).toUInt32 &&& Int32.toUInt32 31)).toInt32)).toUInt32 >>> ((16 : Int32).toUInt32 &&& Int32.toUInt32 31)).toInt32))]) (st := [.int ((((((((a0 - (((a0.toUInt32 >>> ((1 : Int32).toUInt32 &&& Int32.toUInt32 31)).toInt32) &&& (1431655765 : Int32))) &&& (858993459 : Int32)) + ((((a0 - (((a0.toUInt32 >>> ((1 : Int32).toUInt32 &&& Int32.toUInt32 31)).toInt32) &&& (1431655765 : Int32))).toUInt32 >>> ((2 : Int32).toUInt32 &&& Int32.toUInt32 31)).toInt32) &&& (858993459 : Int32))) + (((((a0 - (((a0.toUInt32 >>> ((1 : Int32).toUInt32 &&& Int32.toUInt32 31)).toInt32) &&& (1431655765 : Int32))) &&& (858993459 : Int32)) + ((((a0 - (((a0.toUInt32 >>> ((1 : Int32).toUInt32 &&& Int32.toUInt32 31)).toInt32) &&& (1431655765 : Int32))).toUInt32 >>> ((2 : Int32).toUInt32 &&& Int32.toUInt32 31)).toInt32) &&& (858993459 : Int32))).toUInt32 >>> ((4 : Int32).toUInt32 &&& Int32.toUInt32 31)).toInt32)) &&& (252645135 : Int32)) + (((((((a0 - (((a0.toUInt32 >>> ((1 : Int32).toUInt32 &&& Int32.toUInt32 31)).toInt32) &&& (1431655765 : Int32))) &&& (858993459 : Int32)) + ((((a0 - (((a0.toUInt32 >>> ((1 : Int32).toUInt32 &&& Int32.toUInt32 31)).toInt32) &&& (1431655765 : Int32))).toUInt32 >>> ((2 : Int32).toUInt32 &&& Int32.toUInt32 31)).toInt32) &&& (858993459 : Int32))) + (((((a0 - (((a0.toUInt32 >>> ((1 : Int32).toUInt32 &&& Int32.toUInt32 31)).toInt32) &&& (1431655765 : Int32))) &&& (858993459 : Int32)) + ((((a0 - (((a0.toUInt32 >>> ((1 : Int32).toUInt32 &&& Int32.toUInt32 31)).toInt32) &&& (1431655765 : Int32))).toUInt32 >>> ((2 : Int32).toUInt32 &&& Int32.toUInt32 31)).toInt32) &&& (858993459 : Int32))).toUInt32 >>> ((4 : Int32).toUInt32 &&& Int32.toUInt32 31)).toInt32)) &&& (252645135 : Int32)).toUInt32 >>> ((8 : Int32).toUInt32 &&& Int32.toUInt32 31)).toInt32)) + ((((((((a0 - (((a0.toUInt32 >>> ((1 : Int32).toUInt32 &&& Int32.toUInt32 31)).toInt32) &&& (1431655765 : Int32))) &&& (858993459 : Int32)) + ((((a0 - (((a0.toUInt32 >>> ((1 : Int32).toUInt32 &&& Int32.toUInt32 31)).toInt32) &&& (1431655765 : Int32))).toUInt32 >>> ((2 : Int32).toUInt32 &&& Int32.toUInt32 31)).toInt32) &&& (858993459 : Int32))) + (((((a0 - (((a0.toUInt32 >>> ((1 : Int32).toUInt32 &&& Int32.toUInt32 31)).toInt32) &&& (1431655765 : Int32))) &&& (858993459 : Int32)) + ((((a0 - (((a0.toUInt32 >>> ((1 : Int32).toUInt32 &&& Int32.toUInt32 31)).toInt32) &&& (1431655765 : Int32))).toUInt32 >>> ((2 : Int32).toUInt32 &&& Int32.toUInt32 31)).toInt32) &&& (858993459 : Int32))).toUInt32 >>> ((4 : Int32).toUInt32 &&& Int32.toUInt32 31)).toInt32)) &&& (252645135 : Int32)) + (((((((a0 - (((a0.toUInt32 >>> ((1 : Int32).toUInt32 &&& Int32.toUInt32 31)).toInt32) &&& (1431655765 : Int32))) &&& (858993459 : Int32)) + ((((a0 - (((a0.toUInt32 >>> ((1 : Int32).toUInt32 &&& Int32.toUInt32 31)).toInt32) &&& (1431655765 : Int32))).toUInt32 >>> ((2 : Int32).toUInt32 &&& Int32.toUInt32 31)).toInt32) &&& (858993459 : Int32))) + (((((a0 - (((a0.toUInt32 >>> ((1 : Int32).toUInt32 &&& Int32.toUInt32 31)).toInt32) &&& (1431655765 : Int32))) &&& (858993459 : Int32)) + ((((a0 - (((a0.toUInt32 >>> ((1 : Int32).toUInt32 &&& Int32.toUInt32 31)).toInt32) &&& (1431655765 : Int32))).toUInt32 >>> ((2 : Int32).toUInt32 &&& Int32.toUInt32 31)).toInt32) &&& (858993459 : Int32))).toUInt32 >>> ((4 : Int32).toUInt32 &&& Int32.toUInt32 31)).toInt32)) &&& (252645135 : Int32)).toUInt32 >>> ((8 : Int32).toUInt32 &&& Int32.toUInt32 31)).toInt32)).toUInt32 >>> ((16 : Int32).toUInt32 &&& Int32.toUInt32 31)).toInt32)) &&& (63 : Int32))]) (M := sM Ln I L c s) (o := (none, .int ((((((((a0 - (((a0.toUInt32 >>> ((1 : Int32).toUInt32 &&& Int32.toUInt32 31)).toInt32) &&& (1431655765 : Int32))) &&& (858993459 : Int32)) + ((((a0 - (((a0.toUInt32 >>> ((1 : Int32).toUInt32 &&& Int32.toUInt32 31)).toInt32) &&& (1431655765 : Int32))).toUInt32 >>> ((2 : Int32).toUInt32 &&& Int32.toUInt32 31)).toInt32) &&& (858993459 : Int32))) + (((((a0 - (((a0.toUInt32 >>> ((1 : Int32).toUInt32 &&& Int32.toUInt32 31)).toInt32) &&& (1431655765 : Int32))) &&& (858993459 : Int32)) + ((((a0 - (((a0.toUInt32 >>> ((1 : Int32).toUInt32 &&& Int32.toUInt32 31)).toInt32) &&& (1431655765 : Int32))).toUInt32 >>> ((2 : Int32).toUInt32 &&& Int32.toUInt32 31)).toInt32) &&& (858993459 : Int32))).toUInt32 >>> ((4 : Int32).toUInt32 &&& Int32.toUInt32 31)).toInt32)) &&& (252645135 : Int32)) + (((((((a0 - (((a0.toUInt32 >>> ((1 : Int32).toUInt32 &&& Int32.toUInt32 31)).toInt32) &&& (1431655765 : Int32))) &&& (858993459 : Int32)) + ((((a0 - (((a0.toUInt32 >>> ((1 : Int32).toUInt32 &&& Int32.toUInt32 31)).toInt32) &&& (1431655765 : Int32))).toUInt32 >>> ((2 : Int32).toUInt32 &&& Int32.toUInt32 31)).toInt32) &&& (858993459 : Int32))) + (((((a0 - (((a0.toUInt32 >>> ((1 : Int32).toUInt32 &&& Int32.toUInt32 31)).toInt32) &&& (1431655765 : Int32))) &&& (858993459 : Int32)) + ((((a0 - (((a0.toUInt32 >>> ((1 : Int32).toUInt32 &&& Int32.toUInt32 31)).toInt32) &&& (1431655765 : Int32))).toUInt32 >>> ((2 : Int32).toUInt32 &&& Int32.toUInt32 31)).toInt32) &&& (858993459 : Int32))).toUInt32 >>> ((4 : Int32).toUInt32 &&& Int32.toUInt32 31)).toInt32)) &&& (252645135 : Int32)).toUInt32 >>> ((8 : Int32).toUInt32 &&& Int32.toUInt32 31)).toInt32)) + ((((((((a0 - (((a0.toUInt32 >>> ((1 : Int32).toUInt32 &&& Int32.toUInt32 31)).toInt32) &&& (1431655765 : Int32))) &&& (858993459 : Int32)) + ((((a0 - (((a0.toUInt32 >>> ((1 : Int32).toUInt32 &&& Int32.toUInt32 31)).toInt32) &&& (1431655765 : Int32))).toUInt32 >>> ((2 : Int32).toUInt32 &&& Int32.toUInt32 31)).toInt32) &&& (858993459 : Int32))) + (((((a0 - (((a0.toUInt32 >>> ((1 : Int32).toUInt32 &&& Int32.toUInt32 31)).toInt32) &&& (1431655765 : Int32))) &&& (858993459 : Int32)) + ((((a0 - (((a0.toUInt32 >>> ((1 : Int32).toUInt32 &&& Int32.toUInt32 31)).toInt32) &&& (1431655765 : Int32))).toUInt32 >>> ((2 : Int32).toUInt32 &&& Int32.toUInt32 31)).toInt32) &&& (858993459 : Int32))).toUInt32 >>> ((4 : Int32).toUInt32 &&& Int32.toUInt32 31)).toInt32)) &&& (252645135 : Int32)) + (((((((a0 - (((a0.toUInt32 >>> ((1 : Int32).toUInt32 &&& Int32.toUInt32 31)).toInt32) &&& (1431655765 : Int32))) &&& (858993459 : Int32)) + ((((a0 - (((a0.toUInt32 >>> ((1 : Int32).toUInt32 &&& Int32.toUInt32 31)).toInt32) &&& (1431655765 : Int32))).toUInt32 >>> ((2 : Int32).toUInt32 &&& Int32.toUInt32 31)).toInt32) &&& (858993459 : Int32))) + (((((a0 - (((a0.toUInt32 >>> ((1 : Int32).toUInt32 &&& Int32.toUInt32 31)).toInt32) &&& (1431655765 : Int32))) &&& (858993459 : Int32)) + ((((a0 - (((a0.toUInt32 >>> ((1 : Int32).toUInt32 &&& Int32.toUInt32 31)).toInt32) &&& (1431655765 : Int32))).toUInt32 >>> ((2 : Int32).toUInt32 &&& Int32.toUInt32 31)).toInt32) &&& (858993459 : Int32))).toUInt32 >>> ((4 : Int32).toUInt32 &&& Int32.toUInt32 31)).toInt32)) &&& (252645135 : Int32)).toUInt32 >>> ((8 : Int32).toUInt32 &&& Int32.toUInt32 31)).toInt32)).toUInt32 >>> ((16 : Int32).toUInt32 &&& Int32.toUInt32 31)).toInt32)) &&& (63 : Int32)), sM Ln I L c s)) rfl rfl h (by omega)

theorem w_J13_bitCount_95d88_0 {Ln d c s : Nat} {I : Nat → Nat → Int32} {L : Nat → Nat → Int64} {Q : dd_O → Prop} {a0 : Int64} (hd : 28 ≤ d) (h : Q (none, .int ((((((((((a0 - (((a0.toUInt64 >>> ((1 : Int32).toInt64.toUInt64 &&& Int64.toUInt64 63)).toInt64) &&& (Int64.ofNat 6148914691236517205))) &&& (Int64.ofNat 3689348814741910323)) + ((((a0 - (((a0.toUInt64 >>> ((1 : Int32).toInt64.toUInt64 &&& Int64.toUInt64 63)).toInt64) &&& (Int64.ofNat 6148914691236517205))).toUInt64 >>> ((2 : Int32).toInt64.toUInt64 &&& Int64.toUInt64 63)).toInt64) &&& (Int64.ofNat 3689348814741910323))) + (((((a0 - (((a0.toUInt64 >>> ((1 : Int32).toInt64.toUInt64 &&& Int64.toUInt64 63)).toInt64) &&& (Int64.ofNat 6148914691236517205))) &&& (Int64.ofNat 3689348814741910323)) + ((((a0 - (((a0.toUInt64 >>> ((1 : Int32).toInt64.toUInt64 &&& Int64.toUInt64 63)).toInt64) &&& (Int64.ofNat 6148914691236517205))).toUInt64 >>> ((2 : Int32).toInt64.toUInt64 &&& Int64.toUInt64 63)).toInt64) &&& (Int64.ofNat 3689348814741910323))).toUInt64 >>> ((4 : Int32).toInt64.toUInt64 &&& Int64.toUInt64 63)).toInt64)) &&& (Int64.ofNat 1085102592571150095)) + (((((((a0 - (((a0.toUInt64 >>> ((1 : Int32).toInt64.toUInt64 &&& Int64.toUInt64 63)).toInt64) &&& (Int64.ofNat 6148914691236517205))) &&& (Int64.ofNat 3689348814741910323)) + ((((a0 - (((a0.toUInt64 >>> ((1 : Int32).toInt64.toUInt64 &&& Int64.toUInt64 63)).toInt64) &&& (Int64.ofNat 6148914691236517205))).toUInt64 >>> ((2 : Int32).toInt64.toUInt64 &&& Int64.toUInt64 63)).toInt64) &&& (Int64.ofNat 3689348814741910323))) + (((((a0 - (((a0.toUInt64 >>> ((1 : Int32).toInt64.toUInt64 &&& Int64.toUInt64 63)).toInt64) &&& (Int64.ofNat 6148914691236517205))) &&& (Int64.ofNat 3689348814741910323)) + ((((a0 - (((a0.toUInt64 >>> ((1 : Int32).toInt64.toUInt64 &&& Int64.toUInt64 63)).toInt64) &&& (Int64.ofNat 6148914691236517205))).toUInt64 >>> ((2 : Int32).toInt64.toUInt64 &&& Int64.toUInt64 63)).toInt64) &&& (Int64.ofNat 3689348814741910323))).toUInt64 >>> ((4 : Int32).toInt64.toUInt64 &&& Int64.toUInt64 63)).toInt64)) &&& (Int64.ofNat 1085102592571150095)).toUInt64 >>> ((8 : Int32).toInt64.toUInt64 &&& Int64.toUInt64 63)).toInt64)) + ((((((((a0 - (((a0.toUInt64 >>> ((1 : Int32).toInt64.toUInt64 &&& Int64.toUInt64 63)).toInt64) &&& (Int64.ofNat 6148914691236517205))) &&& (Int64.ofNat 3689348814741910323)) + ((((a0 - (((a0.toUInt64 >>> ((1 : Int32).toInt64.toUInt64 &&& Int64.toUInt64 63)).toInt64) &&& (Int64.ofNat 6148914691236517205))).toUInt64 >>> ((2 : Int32).toInt64.toUInt64 &&& Int64.toUInt64 63)).toInt64) &&& (Int64.ofNat 3689348814741910323))) + (((((a0 - (((a0.toUInt64 >>> ((1 : Int32).toInt64.toUInt64 &&& Int64.toUInt64 63)).toInt64) &&& (Int64.ofNat 6148914691236517205))) &&& (Int64.ofNat 3689348814741910323)) + ((((a0 - (((a0.toUInt64 >>> ((1 : Int32).toInt64.toUInt64 &&& Int64.toUInt64 63)).toInt64) &&& (Int64.ofNat 6148914691236517205))).toUInt64 >>> ((2 : Int32).toInt64.toUInt64 &&& Int64.toUInt64 63)).toInt64) &&& (Int64.ofNat 3689348814741910323))).toUInt64 >>> ((4 : Int32).toInt64.toUInt64 &&& Int64.toUInt64 63)).toInt64)) &&& (Int64.ofNat 1085102592571150095)) + (((((((a0 - (((a0.toUInt64 >>> ((1 : Int32).toInt64.toUInt64 &&& Int64.toUInt64 63)).toInt64) &&& (Int64.ofNat 6148914691236517205))) &&& (Int64.ofNat 3689348814741910323)) + ((((a0 - (((a0.toUInt64 >>> ((1 : Int32).toInt64.toUInt64 &&& Int64.toUInt64 63)).toInt64) &&& (Int64.ofNat 6148914691236517205))).toUInt64 >>> ((2 : Int32).toInt64.toUInt64 &&& Int64.toUInt64 63)).toInt64) &&& (Int64.ofNat 3689348814741910323))) + (((((a0 - (((a0.toUInt64 >>> ((1 : Int32).toInt64.toUInt64 &&& Int64.toUInt64 63)).toInt64) &&& (Int64.ofNat 6148914691236517205))) &&& (Int64.ofNat 3689348814741910323)) + ((((a0 - (((a0.toUInt64 >>> ((1 : Int32).toInt64.toUInt64 &&& Int64.toUInt64 63)).toInt64) &&& (Int64.ofNat 6148914691236517205))).toUInt64 >>> ((2 : Int32).toInt64.toUInt64 &&& Int64.toUInt64 63)).toInt64) &&& (Int64.ofNat 3689348814741910323))).toUInt64 >>> ((4 : Int32).toInt64.toUInt64 &&& Int64.toUInt64 63)).toInt64)) &&& (Int64.ofNat 1085102592571150095)).toUInt64 >>> ((8 : Int32).toInt64.toUInt64 &&& Int64.toUInt64 63)).toInt64)).toUInt64 >>> ((16 : Int32).toInt64.toUInt64 &&& Int64.toUInt64 63)).toInt64)) + (((((((((a0 - (((a0.toUInt64 >>> ((1 : Int32).toInt64.toUInt64 &&& Int64.toUInt64 63)).toInt64) &&& (Int64.ofNat 6148914691236517205))) &&& (Int64.ofNat 3689348814741910323)) + ((((a0 - (((a0.toUInt64 >>> ((1 : Int32).toInt64.toUInt64 &&& Int64.toUInt64 63)).toInt64) &&& (Int64.ofNat 6148914691236517205))).toUInt64 >>> ((2 : Int32).toInt64.toUInt64 &&& Int64.toUInt64 63)).toInt64) &&& (Int64.ofNat 3689348814741910323))) + (((((a0 - (((a0.toUInt64 >>> ((1 : Int32).toInt64.toUInt64 &&& Int64.toUInt64 63)).toInt64) &&& (Int64.ofNat 6148914691236517205))) &&& (Int64.ofNat 3689348814741910323)) + ((((a0 - (((a0.toUInt64 >>> ((1 : Int32).toInt64.toUInt64 &&& Int64.toUInt64 63)).toInt64) &&& (Int64.ofNat 6148914691236517205))).toUInt64 >>> ((2 : Int32).toInt64.toUInt64 &&& Int64.toUInt64 63)).toInt64) &&& (Int64.ofNat 3689348814741910323))).toUInt64 >>> ((4 : Int32).toInt64.toUInt64 &&& Int64.toUInt64 63)).toInt64)) &&& (Int64.ofNat 1085102592571150095)) + (((((((a0 - (((a0.toUInt64 >>> ((1 : Int32).toInt64.toUInt64 &&& Int64.toUInt64 63)).toInt64) &&& (Int64.ofNat 6148914691236517205))) &&& (Int64.ofNat 3689348814741910323)) + ((((a0 - (((a0.toUInt64 >>> ((1 : Int32).toInt64.toUInt64 &&& Int64.toUInt64 63)).toInt64) &&& (Int64.ofNat 6148914691236517205))).toUInt64 >>> ((2 : Int32).toInt64.toUInt64 &&& Int64.toUInt64 63)).toInt64) &&& (Int64.ofNat 3689348814741910323))) + (((((a0 - (((a0.toUInt64 >>> ((1 : Int32).toInt64.toUInt64 &&& Int64.toUInt64 63)).toInt64) &&& (Int64.ofNat 6148914691236517205))) &&& (Int64.ofNat 3689348814741910323)) + ((((a0 - (((a0.toUInt64 >>> ((1 : Int32).toInt64.toUInt64 &&& Int64.toUInt64 63)).toInt64) &&& (Int64.ofNat 6148914691236517205))).toUInt64 >>> ((2 : Int32).toInt64.toUInt64 &&& Int64.toUInt64 63)).toInt64) &&& (Int64.ofNat 3689348814741910323))).toUInt64 >>> ((4 : Int32).toInt64.toUInt64 &&& Int64.toUInt64 63)).toInt64)) &&& (Int64.ofNat 1085102592571150095)).toUInt64 >>> ((8 : Int32).toInt64.toUInt64 &&& Int64.toUInt64 63)).toInt64)) + ((((((((a0 - (((a0.toUInt64 >>> ((1 : Int32).toInt64.toUInt64 &&& Int64.toUInt64 63)).toInt64) &&& (Int64.ofNat 6148914691236517205))) &&& (Int64.ofNat 3689348814741910323)) + ((((a0 - (((a0.toUInt64 >>> ((1 : Int32).toInt64.toUInt64 &&& Int64.toUInt64 63)).toInt64) &&& (Int64.ofNat 6148914691236517205))).toUInt64 >>> ((2 : Int32).toInt64.toUInt64 &&& Int64.toUInt64 63)).toInt64) &&& (Int64.ofNat 3689348814741910323))) + (((((a0 - (((a0.toUInt64 >>> ((1 : Int32).toInt64.toUInt64 &&& Int64.toUInt64 63)).toInt64) &&& (Int64.ofNat 6148914691236517205))) &&& (Int64.ofNat 3689348814741910323)) + ((((a0 - (((a0.toUInt64 >>> ((1 : Int32).toInt64.toUInt64 &&& Int64.toUInt64 63)).toInt64) &&& (Int64.ofNat 6148914691236517205))).toUInt64 >>> ((2 : Int32).toInt64.toUInt64 &&& Int64.toUInt64 63)).toInt64) &&& (Int64.ofNat 3689348814741910323))).toUInt64 >>> ((4 : Int32).toInt64.toUInt64 &&& Int64.toUInt64 63)).toInt64)) &&& (Int64.ofNat 1085102592571150095)) + (((((((a0 - (((a0.toUInt64 >>> ((1 : Int32).toInt64.toUInt64 &&& Int64.toUInt64 63)).toInt64) &&& (Int64.ofNat 6148914691236517205))) &&& (Int64.ofNat 3689348814741910323)) + ((((a0 - (((a0.toUInt64 >>> ((1 : Int32).toInt64.toUInt64 &&& Int64.toUInt64 63)).toInt64) &&& (Int64.ofNat 6148914691236517205))).toUInt64 >>> ((2 : Int32).toInt64.toUInt64 &&& Int64.toUInt64 63)).toInt64) &&& (Int64.ofNat 3689348814741910323))) + (((((a0 - (((a0.toUInt64 >>> ((1 : Int32).toInt64.toUInt64 &&& Int64.toUInt64 63)).toInt64) &&& (Int64.ofNat 6148914691236517205))) &&& (Int64.ofNat 3689348814741910323)) + ((((a0 - (((a0.toUInt64 >>> ((1 : Int32).toInt64.toUInt64 &&& Int64.toUInt64 63)).toInt64) &&& (Int64.ofNat 6148914691236517205))).toUInt64 >>> ((2 : Int32).toInt64.toUInt64 &&& Int64.toUInt64 63)).toInt64) &&& (Int64.ofNat 3689348814741910323))).toUInt64 >>> ((4 : Int32).toInt64.toUInt64 &&& Int64.toUInt64 63)).toInt64)) &&& (Int64.ofNat 1085102592571150095)).toUInt64 >>> ((8 : Int32).toInt64.toUInt64 &&& Int64.toUInt64 63)).toInt64)).toUInt64 >>> ((16 : Int32).toInt64.toUInt64 &&& Int64.toUInt64 63)).toInt64)).toUInt64 >>> ((32 : Int32).toInt64.toUInt64 &&& Int64.toUInt64 63)).toInt64)).toInt32) &&& (127 : Int32)), sM Ln I L c s)) : dd_Ev d m_J13_bitCount_95d88 [.long a0] (sM Ln I L c s) Q := by
  obtain ⟨e, rfl⟩ : ∃ e, d = e + 16 := ⟨d - 16, by omega⟩
  show dd_Rn (e + 16) m_J13_bitCount_95d88 (0, [.long a0, .null], [], sM Ln I L c s) Q
  exact dd_Rn.retK 48 (pc := 60) (ls := [.long ((((((((a0 - (((a0.toUInt64 >>> ((1 : Int32).toInt64.toUInt64 &&& Int64.toUInt64 63)).toInt64) &&& (Int64.ofNat 6148914691236517205))) &&& (Int64.ofNat 3689348814741910323)) + ((((a0 - (((a0.toUInt64 >>> ((1 : Int32).toInt64.toUInt64 &&& Int64.toUInt64 63)).toInt64) &&& (Int64.ofNat 6148914691236517205))).toUInt64 >>> ((2 : Int32).toInt64.toUInt64 &&& Int64.toUInt64 63)).toInt64) &&& (Int64.ofNat 3689348814741910323))) + (((((a0 - (((a0.toUInt64 >>> ((1 : Int32).toInt64.toUInt64 &&& Int64.toUInt64 63)).toInt64) &&& (Int64.ofNat 6148914691236517205))) &&& (Int64.ofNat 3689348814741910323)) + ((((a0 - (((a0.toUInt64 >>> ((1 : Int32).toInt64.toUInt64 &&& Int64.toUInt64 63)).toInt64) &&& (Int64.ofNat 6148914691236517205))).toUInt64 >>> ((2 : Int32).toInt64.toUInt64 &&& Int64.toUInt64 63)).toInt64) &&& (Int64.ofNat 3689348814741910323))).toUInt64 >>> ((4 : Int32).toInt64.toUInt64 &&& Int64.toUInt64 63)).toInt64)) &&& (Int64.ofNat 1085102592571150095)) + (((((((a0 - (((a0.toUInt64 >>> ((1 : Int32).toInt64.toUInt64 &&& Int64.toUInt64 63)).toInt64) &&& (Int64.ofNat 6148914691236517205))) &&& (Int64.ofNat 3689348814741910323)) + ((((a0 - (((a0.toUInt64 >>> ((1 : Int32).toInt64.toUInt64 &&& Int64.toUInt64 63)).toInt64) &&& (Int64.ofNat 6148914691236517205))).toUInt64 >>> ((2 : Int32).toInt64.toUInt64 &&& Int64.toUInt64 63)).toInt64) &&& (Int64.ofNat 3689348814741910323))) + (((((a0 - (((a0.toUInt64 >>> ((1 : Int32).toInt64.toUInt64 &&& Int64.toUInt64 63)).toInt64) &&& (Int64.ofNat 6148914691236517205))) &&& (Int64.ofNat 3689348814741910323)) + ((((a0 - (((a0.toUInt64 >>> ((1 : Int32).toInt64.toUInt64 &&& Int64.toUInt64 63)).toInt64) &&& (Int64.ofNat 6148914691236517205))).toUInt64 >>> ((2 : Int32).toInt64.toUInt64 &&& Int64.toUInt64 63)).toInt64) &&& (Int64.ofNat 3689348814741910323))).toUInt64 >>> ((4 : Int32).toInt64.toUInt64 &&& Int64.toUInt64 63)).toInt64)) &&& (Int64.ofNat 1085102592571150095)).toUInt64 >>> ((8 : Int32).toInt64.toUInt64 &&& Int64.toUInt64 63)).toInt64)) + ((((((((a0 - (((a0.toUInt64 >>> ((1 : Int32).toInt64.toUInt64 &&& Int64.toUInt64 63)).toInt64) &&& (Int64.ofNat 6148914691236517205))) &&& (Int64.ofNat 3689348814741910323)) + ((((a0 - (((a0.toUInt64 >>> ((1 : Int32).toInt64.toUInt64 &&& Int64.toUInt64 63)).toInt64) &&& (Int64.ofNat 6148914691236517205))).toUInt64 >>> ((2 : Int32).toInt64.toUInt64 &&& Int64.toUInt64 63)).toInt64) &&& (Int64.ofNat 3689348814741910323))) + (((((a0 - (((a0.toUInt64 >>> ((1 : Int32).toInt64.toUInt64 &&& Int64.toUInt64 63)).toInt64) &&& (Int64.ofNat 6148914691236517205))) &&& (Int64.ofNat 3689348814741910323)) + ((((a0 - (((a0.toUInt64 >>> ((1 : Int32).toInt64.toUInt64 &&& Int64.toUInt64 63)).toInt64) &&& (Int64.ofNat 6148914691236517205))).toUInt64 >>> ((2 : Int32).toInt64.toUInt64 &&& Int64.toUInt64 63)).toInt64) &&& (Int64.ofNat 3689348814741910323))).toUInt64 >>> ((4 : Int32).toInt64.toUInt64 &&& Int64.toUInt64 63)).toInt64)) &&& (Int64.ofNat 1085102592571150095)) + (((((((a0 - (((a0.toUInt64 >>> ((1 : Int32).toInt64.toUInt64 &&& Int64.toUInt64 63)).toInt64) &&& (Int64.ofNat 6148914691236517205))) &&& (Int64.ofNat 3689348814741910323)) + ((((a0 - (((a0.toUInt64 >>> ((1 : Int32).toInt64.toUInt64 &&& Int64.toUInt64 63)).toInt64) &&& (Int64.ofNat 6148914691236517205))).toUInt64 >>> ((2 : Int32).toInt64.toUInt64 &&& Int64.toUInt64 63)).toInt64) &&& (Int64.ofNat 3689348814741910323))) + (((((a0 - (((a0.toUInt64 >>> ((1 : Int32).toInt64.toUInt64 &&& Int64.toUInt64 63)).toInt64) &&& (Int64.ofNat 6148914691236517205))) &&& (Int64.ofNat 3689348814741910323)) + ((((a0 - (((a0.toUInt64 >>> ((1 : Int32).toInt64.toUInt64 &&& Int64.toUInt64 63)).toInt64) &&& (Int64.ofNat 6148914691236517205))).toUInt64 >>> ((2 : Int32).toInt64.toUInt64 &&& Int64.toUInt64 63)).toInt64) &&& (Int64.ofNat 3689348814741910323))).toUInt64 >>> ((4 : Int32).toInt64.toUInt64 &&& Int64.toUInt64 63)).toInt64)) &&& (Int64.ofNat 1085102592571150095)).toUInt64 >>> ((8 : Int32).toInt64.toUInt64 &&& Int64.toUInt64 63)).toInt64)).toUInt64 >>> ((16 : Int32).toInt64.toUInt64 &&& Int64.toUInt64 63)).toInt64)) + (((((((((a0 - (((a0.toUInt64 >>> ((1 : Int32).toInt64.toUInt64 &&& Int64.toUInt64 63)).toInt64) &&& (Int64.ofNat 6148914691236517205))) &&& (Int64.ofNat 3689348814741910323)) + ((((a0 - (((a0.toUInt64 >>> ((1 : Int32).toInt64.toUInt64 &&& Int64.toUInt64 63)).toInt64) &&& (Int64.ofNat 6148914691236517205))).toUInt64 >>> ((2 : Int32).toInt64.toUInt64 &&& Int64.toUInt64 63)).toInt64) &&& (Int64.ofNat 3689348814741910323))) + (((((a0 - (((a0.toUInt64 >>> ((1 : Int32).toInt64.toUInt64 &&& Int64.toUInt64 63)).toInt64) &&& (Int64.ofNat 6148914691236517205))) &&& (Int64.ofNat 3689348814741910323)) + ((((a0 - (((a0.toUInt64 >>> ((1 : Int32).toInt64.toUInt64 &&& Int64.toUInt64 63)).toInt64) &&& (Int64.ofNat 6148914691236517205))).toUInt64 >>> ((2 : Int32).toInt64.toUInt64 &&& Int64.toUInt64 63)).toInt64) &&& (Int64.ofNat 3689348814741910323))).toUInt64 >>> ((4 : Int32).toInt64.toUInt64 &&& Int64.toUInt64 63)).toInt64)) &&& (Int64.ofNat 1085102592571150095)) + (((((((a0 - (((a0.toUInt64 >>> ((1 : Int32).toInt64.toUInt64 &&& Int64.toUInt64 63)).toInt64) &&& (Int64.ofNat 6148914691236517205))) &&& (Int64.ofNat 3689348814741910323)) + ((((a0 - (((a0.toUInt64 >>> ((1 : Int32).toInt64.toUInt64 &&& Int64.toUInt64 63)).toInt64) &&& (Int64.ofNat 6148914691236517205))).toUInt64 >>> ((2 : Int32).toInt64.toUInt64 &&& Int64.toUInt64 63)).toInt64) &&& (Int64.ofNat 3689348814741910323))) + (((((a0 - (((a0.toUInt64 >>> ((1 : Int32).toInt64.toUInt64 &&& Int64.toUInt64 63)).toInt64) &&& (Int64.ofNat 6148914691236517205))) &&& (Int64.ofNat 3689348814741910323)) + ((((a0 - (((a0.toUInt64 >>> ((1 : Int32).toInt64.toUInt64 &&& Int64.toUInt64 63)).toInt64) &&& (Int64.ofNat 6148914691236517205))).toUInt64 >>> ((2 : Int32).toInt64.toUInt64 &&& Int64.toUInt64 63)).toInt64) &&& (Int64.ofNat 3689348814741910323))).toUInt64 >>> ((4 : Int32).toInt64.toUInt64 &&& Int64.toUInt64 63)).toInt64)) &&& (Int64.ofNat 1085102592571150095)).toUInt64 >>> ((8 : Int32).toInt64.toUInt64 &&& Int64.toUInt64 63)).toInt64)) + ((((((((a0 - (((a0.toUInt64 >>> ((1 : Int32).toInt64.toUInt64 &&& Int64.toUInt64 63)).toInt64) &&& (Int64.ofNat 6148914691236517205))) &&& (Int64.ofNat 3689348814741910323)) + ((((a0 - (((a0.toUInt64 >>> ((1 : Int32).toInt64.toUInt64 &&& Int64.toUInt64 63)).toInt64) &&& (Int64.ofNat 6148914691236517205))).toUInt64 >>> ((2 : Int32).toInt64.toUInt64 &&& Int64.toUInt64 63)).toInt64) &&& (Int64.ofNat 3689348814741910323))) + (((((a0 - (((a0.toUInt64 >>> ((1 : Int32).toInt64.toUInt64 &&& Int64.toUInt64 63)).toInt64) &&& (Int64.ofNat 6148914691236517205))) &&& (Int64.ofNat 3689348814741910323)) + ((((a0 - (((a0.toUInt64 >>> ((1 : Int32).toInt64.toUInt64 &&& Int64.toUInt64 63)).toInt64) &&& (Int64.ofNat 6148914691236517205))).toUInt64 >>> ((2 : Int32).toInt64.toUInt64 &&& Int64.toUInt64 63)).toInt64) &&& (Int64.ofNat 3689348814741910323))).toUInt64 >>> ((4 : Int32).toInt64.toUInt64 &&& Int64.toUInt64 63)).toInt64)) &&& (Int64.ofNat 1085102592571150095)) + (((((((a0 - (((a0.toUInt64 >>> ((1 : Int32).toInt64.toUInt64 &&& Int64.toUInt64 63)).toInt64) &&& (Int64.ofNat 6148914691236517205))) &&& (Int64.ofNat 3689348814741910323)) + ((((a0 - (((a0.toUInt64 >>> ((1 : Int32).toInt64.toUInt64 &&& Int64.toUInt64 63)).toInt64) &&& (Int64.ofNat 6148914691236517205))).toUInt64 >>> ((2 : Int32).toInt64.toUInt64 &&& Int64.toUInt64 63)).toInt64) &&& (Int64.ofNat 3689348814741910323))) + (((((a0 - (((a0.toUInt64 >>> ((1 : Int32).toInt64.toUInt64 &&& Int64.toUInt64 63)).toInt64) &&& (Int64.ofNat 6148914691236517205))) &&& (Int64.ofNat 3689348814741910323)) + ((((a0 - (((a0.toUInt64 >>> ((1 : Int32).toInt64.toUInt64 &&& Int64.toUInt64 63)).toInt64) &&& (Int64.ofNat 6148914691236517205))).toUInt64 >>> ((2 : Int32).toInt64.toUInt64 &&& Int64.toUInt64 63)).toInt64) &&& (Int64.ofNat 3689348814741910323))).toUInt64 >>> ((4 : Int32).toInt64.toUInt64 &&& Int64.toUInt64 63)).toInt64)) &&& (Int64.ofNat 1085102592571150095)).toUInt64 >>> ((8 : Int32).toInt64.toUInt64 &&& Int64.toUInt64 63)).toInt64)).toUInt64 >>> ((16 : Int32).toInt64.toUInt64 &&& Int64.toUInt64 63)).toInt64)).toUInt64 >>> ((32 : Int32).toInt64.toUInt64 &&& Int64.toUInt64 63)).toInt64)), .null]) (st := [.int ((((((((((a0 - (((a0.toUInt64 >>> ((1 : Int32).toInt64.toUInt64 &&& Int64.toUInt64 63)).toInt64) &&& (Int64.ofNat 6148914691236517205))) &&& (Int64.ofNat 3689348814741910323)) + ((((a0 - (((a0.toUInt64 >>> ((1 : Int32).toInt64.toUInt64 &&& Int64.toUInt64 63)).toInt64) &&& (Int64.ofNat 6148914691236517205))).toUInt64 >>> ((2 : Int32).toInt64.toUInt64 &&& Int64.toUInt64 63)).toInt64) &&& (Int64.ofNat 3689348814741910323))) + (((((a0 - (((a0.toUInt64 >>> ((1 : Int32).toInt64.toUInt64 &&& Int64.toUInt64 63)).toInt64) &&& (Int64.ofNat 6148914691236517205))) &&& (Int64.ofNat 3689348814741910323)) + ((((a0 - (((a0.toUInt64 >>> ((1 : Int32).toInt64.toUInt64 &&& Int64.toUInt64 63)).toInt64) &&& (Int64.ofNat 6148914691236517205))).toUInt64 >>> ((2 : Int32).toInt64.toUInt64 &&& Int64.toUInt64 63)).toInt64) &&& (Int64.ofNat 3689348814741910323))).toUInt64 >>> ((4 : Int32).toInt64.toUInt64 &&& Int64.toUInt64 63)).toInt64)) &&& (Int64.ofNat 1085102592571150095)) + (((((((a0 - (((a0.toUInt64 >>> ((1 : Int32).toInt64.toUInt64 &&& Int64.toUInt64 63)).toInt64) &&& (Int64.ofNat 6148914691236517205))) &&& (Int64.ofNat 3689348814741910323)) + ((((a0 - (((a0.toUInt64 >>> ((1 : Int32).toInt64.toUInt64 &&& Int64.toUInt64 63)).toInt64) &&& (Int64.ofNat 6148914691236517205))).toUInt64 >>> ((2 : Int32).toInt64.toUInt64 &&& Int64.toUInt64 63)).toInt64) &&& (Int64.ofNat 3689348814741910323))) + (((((a0 - (((a0.toUInt64 >>> ((1 : Int32).toInt64.toUInt64 &&& Int64.toUInt64 63)).toInt64) &&& (Int64.ofNat 6148914691236517205))) &&& (Int64.ofNat 3689348814741910323)) + ((((a0 - (((a0.toUInt64 >>> ((1 : Int32).toInt64.toUInt64 &&& Int64.toUInt64 63)).toInt64) &&& (Int64.ofNat 6148914691236517205))).toUInt64 >>> ((2 : Int32).toInt64.toUInt64 &&& Int64.toUInt64 63)).toInt64) &&& (Int64.ofNat 3689348814741910323))).toUInt64 >>> ((4 : Int32).toInt64.toUInt64 &&& Int64.toUInt64 63)).toInt64)) &&& (Int64.ofNat 1085102592571150095)).toUInt64 >>> ((8 : Int32).toInt64.toUInt64 &&& Int64.toUInt64 63)).toInt64)) + ((((((((a0 - (((a0.toUInt64 >>> ((1 : Int32).toInt64.toUInt64 &&& Int64.toUInt64 63)).toInt64) &&& (Int64.ofNat 6148914691236517205))) &&& (Int64.ofNat 3689348814741910323)) + ((((a0 - (((a0.toUInt64 >>> ((1 : Int32).toInt64.toUInt64 &&& Int64.toUInt64 63)).toInt64) &&& (Int64.ofNat 6148914691236517205))).toUInt64 >>> ((2 : Int32).toInt64.toUInt64 &&& Int64.toUInt64 63)).toInt64) &&& (Int64.ofNat 3689348814741910323))) + (((((a0 - (((a0.toUInt64 >>> ((1 : Int32).toInt64.toUInt64 &&& Int64.toUInt64 63)).toInt64) &&& (Int64.ofNat 6148914691236517205))) &&& (Int64.ofNat 3689348814741910323)) + ((((a0 - (((a0.toUInt64 >>> ((1 : Int32).toInt64.toUInt64 &&& Int64.toUInt64 63)).toInt64) &&& (Int64.ofNat 6148914691236517205))).toUInt64 >>> ((2 : Int32).toInt64.toUInt64 &&& Int64.toUInt64 63)).toInt64) &&& (Int64.ofNat 3689348814741910323))).toUInt64 >>> ((4 : Int32).toInt64.toUInt64 &&& Int64.toUInt64 63)).toInt64)) &&& (Int64.ofNat 1085102592571150095)) + (((((((a0 - (((a0.toUInt64 >>> ((1 : Int32).toInt64.toUInt64 &&& Int64.toUInt64 63)).toInt64) &&& (Int64.ofNat 6148914691236517205))) &&& (Int64.ofNat 3689348814741910323)) + ((((a0 - (((a0.toUInt64 >>> ((1 : Int32).toInt64.toUInt64 &&& Int64.toUInt64 63)).toInt64) &&& (Int64.ofNat 6148914691236517205))).toUInt64 >>> ((2 : Int32).toInt64.toUInt64 &&& Int64.toUInt64 63)).toInt64) &&& (Int64.ofNat 3689348814741910323))) + (((((a0 - (((a0.toUInt64 >>> ((1 : Int32).toInt64.toUInt64 &&& Int64.toUInt64 63)).toInt64) &&& (Int64.ofNat 6148914691236517205))) &&& (Int64.ofNat 3689348814741910323)) + ((((a0 - (((a0.toUInt64 >>> ((1 : Int32).toInt64.toUInt64 &&& Int64.toUInt64 63)).toInt64) &&& (Int64.ofNat 6148914691236517205))).toUInt64 >>> ((2 : Int32).toInt64.toUInt64 &&& Int64.toUInt64 63)).toInt64) &&& (Int64.ofNat 3689348814741910323))).toUInt64 >>> ((4 : Int32).toInt64.toUInt64 &&& Int64.toUInt64 63)).toInt64)) &&& (Int64.ofNat 1085102592571150095)).toUInt64 >>> ((8 : Int32).toInt64.toUInt64 &&& Int64.toUInt64 63)).toInt64)).toUInt64 >>> ((16 : Int32).toInt64.toUInt64 &&& Int64.toUInt64 63)).toInt64)) + (((((((((a0 - (((a0.toUInt64 >>> ((1 : Int32).toInt64.toUInt64 &&& Int64.toUInt64 63)).toInt64) &&& (Int64.ofNat 6148914691236517205))) &&& (Int64.ofNat 3689348814741910323)) + ((((a0 - (((a0.toUInt64 >>> ((1 : Int32).toInt64.toUInt64 &&& Int64.toUInt64 63)).toInt64) &&& (Int64.ofNat 6148914691236517205))).toUInt64 >>> ((2 : Int32).toInt64.toUInt64 &&& Int64.toUInt64 63)).toInt64) &&& (Int64.ofNat 3689348814741910323))) + (((((a0 - (((a0.toUInt64 >>> ((1 : Int32).toInt64.toUInt64 &&& Int64.toUInt64 63)).toInt64) &&& (Int64.ofNat 6148914691236517205))) &&& (Int64.ofNat 3689348814741910323)) + ((((a0 - (((a0.toUInt64 >>> ((1 : Int32).toInt64.toUInt64 &&& Int64.toUInt64 63)).toInt64) &&& (Int64.ofNat 6148914691236517205))).toUInt64 >>> ((2 : Int32).toInt64.toUInt64 &&& Int64.toUInt64 63)).toInt64) &&& (Int64.ofNat 3689348814741910323))).toUInt64 >>> ((4 : Int32).toInt64.toUInt64 &&& Int64.toUInt64 63)).toInt64)) &&& (Int64.ofNat 1085102592571150095)) + (((((((a0 - (((a0.toUInt64 >>> ((1 : Int32).toInt64.toUInt64 &&& Int64.toUInt64 63)).toInt64) &&& (Int64.ofNat 6148914691236517205))) &&& (Int64.ofNat 3689348814741910323)) + ((((a0 - (((a0.toUInt64 >>> ((1 : Int32).toInt64.toUInt64 &&& Int64.toUInt64 63)).toInt64) &&& (Int64.ofNat 6148914691236517205))).toUInt64 >>> ((2 : Int32).toInt64.toUInt64 &&& Int64.toUInt64 63)).toInt64) &&& (Int64.ofNat 3689348814741910323))) + (((((a0 - (((a0.toUInt64 >>> ((1 : Int32).toInt64.toUInt64 &&& Int64.toUInt64 63)).toInt64) &&& (Int64.ofNat 6148914691236517205))) &&& (Int64.ofNat 3689348814741910323)) + ((((a0 - (((a0.toUInt64 >>> ((1 : Int32).toInt64.toUInt64 &&& Int64.toUInt64 63)).toInt64) &&& (Int64.ofNat 6148914691236517205))).toUInt64 >>> ((2 : Int32).toInt64.toUInt64 &&& Int64.toUInt64 63)).toInt64) &&& (Int64.ofNat 3689348814741910323))).toUInt64 >>> ((4 : Int32).toInt64.toUInt64 &&& Int64.toUInt64 63)).toInt64)) &&& (Int64.ofNat 1085102592571150095)).toUInt64 >>> ((8 : Int32).toInt64.toUInt64 &&& Int64.toUInt64 63)).toInt64)) + ((((((((a0 - (((a0.toUInt64 >>> ((1 : Int32).toInt64.toUInt64 &&& Int64.toUInt64 63)).toInt64) &&& (Int64.ofNat 6148914691236517205))) &&& (Int64.ofNat 3689348814741910323)) + ((((a0 - (((a0.toUInt64 >>> ((1 : Int32).toInt64.toUInt64 &&& Int64.toUInt64 63)).toInt64) &&& (Int64.ofNat 6148914691236517205))).toUInt64 >>> ((2 : Int32).toInt64.toUInt64 &&& Int64.toUInt64 63)).toInt64) &&& (Int64.ofNat 3689348814741910323))) + (((((a0 - (((a0.toUInt64 >>> ((1 : Int32).toInt64.toUInt64 &&& Int64.toUInt64 63)).toInt64) &&& (Int64.ofNat 6148914691236517205))) &&& (Int64.ofNat 3689348814741910323)) + ((((a0 - (((a0.toUInt64 >>> ((1 : Int32).toInt64.toUInt64 &&& Int64.toUInt64 63)).toInt64) &&& (Int64.ofNat 6148914691236517205))).toUInt64 >>> ((2 : Int32).toInt64.toUInt64 &&& Int64.toUInt64 63)).toInt64) &&& (Int64.ofNat 3689348814741910323))).toUInt64 >>> ((4 : Int32).toInt64.toUInt64 &&& Int64.toUInt64 63)).toInt64)) &&& (Int64.ofNat 1085102592571150095)) + (((((((a0 - (((a0.toUInt64 >>> ((1 : Int32).toInt64.toUInt64 &&& Int64.toUInt64 63)).toInt64) &&& (Int64.ofNat 6148914691236517205))) &&& (Int64.ofNat 3689348814741910323)) + ((((a0 - (((a0.toUInt64 >>> ((1 : Int32).toInt64.toUInt64 &&& Int64.toUInt64 63)).toInt64) &&& (Int64.ofNat 6148914691236517205))).toUInt64 >>> ((2 : Int32).toInt64.toUInt64 &&& Int64.toUInt64 63)).toInt64) &&& (Int64.ofNat 3689348814741910323))) + (((((a0 - (((a0.toUInt64 >>> ((1 : Int32).toInt64.toUInt64 &&& Int64.toUInt64 63)).toInt64) &&& (Int64.ofNat 6148914691236517205))) &&& (Int64.ofNat 3689348814741910323)) + ((((a0 - (((a0.toUInt64 >>> ((1 : Int32).toInt64.toUInt64 &&& Int64.toUInt64 63)).toInt64) &&& (Int64.ofNat 6148914691236517205))).toUInt64 >>> ((2 : Int32).toInt64.toUInt64 &&& Int64.toUInt64 63)).toInt64) &&& (Int64.ofNat 3689348814741910323))).toUInt64 >>> ((4 : Int32).toInt64.toUInt64 &&& Int64.toUInt64 63)).toInt64)) &&& (Int64.ofNat 1085102592571150095)).toUInt64 >>> ((8 : Int32).toInt64.toUInt64 &&& Int64.toUInt64 63)).toInt64)).toUInt64 >>> ((16 : Int32).toInt64.toUInt64 &&& Int64.toUInt64 63)).toInt64)).toUInt64 >>> ((32 : Int32).toInt64.toUInt64 &&& Int64.toUInt64 63)).toInt64)).toInt32) &&& (127 : Int32))]) (M := sM Ln I L c s) (o := (none, .int ((((((((((a0 - (((a0.toUInt64 >>> ((1 : Int32).toInt64.toUInt64 &&& Int64.toUInt64 63)).toInt64) &&& (Int64.ofNat 6148914691236517205))) &&& (Int64.ofNat 3689348814741910323)) + ((((a0 - (((a0.toUInt64 >>> ((1 : Int32).toInt64.toUInt64 &&& Int64.toUInt64 63)).toInt64) &&& (Int64.ofNat 6148914691236517205))).toUInt64 >>> ((2 : Int32).toInt64.toUInt64 &&& Int64.toUInt64 63)).toInt64) &&& (Int64.ofNat 3689348814741910323))) + (((((a0 - (((a0.toUInt64 >>> ((1 : Int32).toInt64.toUInt64 &&& Int64.toUInt64 63)).toInt64) &&& (Int64.ofNat 6148914691236517205))) &&& (Int64.ofNat 3689348814741910323)) + ((((a0 - (((a0.toUInt64 >>> ((1 : Int32).toInt64.toUInt64 &&& Int64.toUInt64 63)).toInt64) &&& (Int64.ofNat 6148914691236517205))).toUInt64 >>> ((2 : Int32).toInt64.toUInt64 &&& Int64.toUInt64 63)).toInt64) &&& (Int64.ofNat 3689348814741910323))).toUInt64 >>> ((4 : Int32).toInt64.toUInt64 &&& Int64.toUInt64 63)).toInt64)) &&& (Int64.ofNat 1085102592571150095)) + (((((((a0 - (((a0.toUInt64 >>> ((1 : Int32).toInt64.toUInt64 &&& Int64.toUInt64 63)).toInt64) &&& (Int64.ofNat 6148914691236517205))) &&& (Int64.ofNat 3689348814741910323)) + ((((a0 - (((a0.toUInt64 >>> ((1 : Int32).toInt64.toUInt64 &&& Int64.toUInt64 63)).toInt64) &&& (Int64.ofNat 6148914691236517205))).toUInt64 >>> ((2 : Int32).toInt64.toUInt64 &&& Int64.toUInt64 63)).toInt64) &&& (Int64.ofNat 3689348814741910323))) + (((((a0 - (((a0.toUInt64 >>> ((1 : Int32).toInt64.toUInt64 &&& Int64.toUInt64 63)).toInt64) &&& (Int64.ofNat 6148914691236517205))) &&& (Int64.ofNat 3689348814741910323)) + ((((a0 - (((a0.toUInt64 >>> ((1 : Int32).toInt64.toUInt64 &&& Int64.toUInt64 63)).toInt64) &&& (Int64.ofNat 6148914691236517205))).toUInt64 >>> ((2 : Int32).toInt64.toUInt64 &&& Int64.toUInt64 63)).toInt64) &&& (Int64.ofNat 3689348814741910323))).toUInt64 >>> ((4 : Int32).toInt64.toUInt64 &&& Int64.toUInt64 63)).toInt64)) &&& (Int64.ofNat 1085102592571150095)).toUInt64 >>> ((8 : Int32).toInt64.toUInt64 &&& Int64.toUInt64 63)).toInt64)) + ((((((((a0 - (((a0.toUInt64 >>> ((1 : Int32).toInt64.toUInt64 &&& Int64.toUInt64 63)).toInt64) &&& (Int64.ofNat 6148914691236517205))) &&& (Int64.ofNat 3689348814741910323)) + ((((a0 - (((a0.toUInt64 >>> ((1 : Int32).toInt64.toUInt64 &&& Int64.toUInt64 63)).toInt64) &&& (Int64.ofNat 6148914691236517205))).toUInt64 >>> ((2 : Int32).toInt64.toUInt64 &&& Int64.toUInt64 63)).toInt64) &&& (Int64.ofNat 3689348814741910323))) + (((((a0 - (((a0.toUInt64 >>> ((1 : Int32).toInt64.toUInt64 &&& Int64.toUInt64 63)).toInt64) &&& (Int64.ofNat 6148914691236517205))) &&& (Int64.ofNat 3689348814741910323)) + ((((a0 - (((a0.toUInt64 >>> ((1 : Int32).toInt64.toUInt64 &&& Int64.toUInt64 63)).toInt64) &&& (Int64.ofNat 6148914691236517205))).toUInt64 >>> ((2 : Int32).toInt64.toUInt64 &&& Int64.toUInt64 63)).toInt64) &&& (Int64.ofNat 3689348814741910323))).toUInt64 >>> ((4 : Int32).toInt64.toUInt64 &&& Int64.toUInt64 63)).toInt64)) &&& (Int64.ofNat 1085102592571150095)) + (((((((a0 - (((a0.toUInt64 >>> ((1 : Int32).toInt64.toUInt64 &&& Int64.toUInt64 63)).toInt64) &&& (Int64.ofNat 6148914691236517205))) &&& (Int64.ofNat 3689348814741910323)) + ((((a0 - (((a0.toUInt64 >>> ((1 : Int32).toInt64.toUInt64 &&& Int64.toUInt64 63)).toInt64) &&& (Int64.ofNat 6148914691236517205))).toUInt64 >>> ((2 : Int32).toInt64.toUInt64 &&& Int64.toUInt64 63)).toInt64) &&& (Int64.ofNat 3689348814741910323))) + (((((a0 - (((a0.toUInt64 >>> ((1 : Int32).toInt64.toUInt64 &&& Int64.toUInt64 63)).toInt64) &&& (Int64.ofNat 6148914691236517205))) &&& (Int64.ofNat 3689348814741910323)) + ((((a0 - (((a0.toUInt64 >>> ((1 : Int32).toInt64.toUInt64 &&& Int64.toUInt64 63)).toInt64) &&& (Int64.ofNat 6148914691236517205))).toUInt64 >>> ((2 : Int32).toInt64.toUInt64 &&& Int64.toUInt64 63)).toInt64) &&& (Int64.ofNat 3689348814741910323))).toUInt64 >>> ((4 : Int32).toInt64.toUInt64 &&& Int64.toUInt64 63)).toInt64)) &&& (Int64.ofNat 1085102592571150095)).toUInt64 >>> ((8 : Int32).toInt64.toUInt64 &&& Int64.toUInt64 63)).toInt64)).toUInt64 >>> ((16 : Int32).toInt64.toUInt64 &&& Int64.toUInt64 63)).toInt64)) + (((((((((a0 - (((a0.toUInt64 >>> ((1 : Int32).toInt64.toUInt64 &&& Int64.toUInt64 63)).toInt64) &&& (Int64.ofNat 6148914691236517205))) &&& (Int64.ofNat 3689348814741910323)) + ((((a0 - (((a0.toUInt64 >>> ((1 : Int32).toInt64.toUInt64 &&& Int64.toUInt64 63)).toInt64) &&& (Int64.ofNat 6148914691236517205))).toUInt64 >>> ((2 : Int32).toInt64.toUInt64 &&& Int64.toUInt64 63)).toInt64) &&& (Int64.ofNat 3689348814741910323))) + (((((a0 - (((a0.toUInt64 >>> ((1 : Int32).toInt64.toUInt64 &&& Int64.toUInt64 63)).toInt64) &&& (Int64.ofNat 6148914691236517205))) &&& (Int64.ofNat 3689348814741910323)) + ((((a0 - (((a0.toUInt64 >>> ((1 : Int32).toInt64.toUInt64 &&& Int64.toUInt64 63)).toInt64) &&& (Int64.ofNat 6148914691236517205))).toUInt64 >>> ((2 : Int32).toInt64.toUInt64 &&& Int64.toUInt64 63)).toInt64) &&& (Int64.ofNat 3689348814741910323))).toUInt64 >>> ((4 : Int32).toInt64.toUInt64 &&& Int64.toUInt64 63)).toInt64)) &&& (Int64.ofNat 1085102592571150095)) + (((((((a0 - (((a0.toUInt64 >>> ((1 : Int32).toInt64.toUInt64 &&& Int64.toUInt64 63)).toInt64) &&& (Int64.ofNat 6148914691236517205))) &&& (Int64.ofNat 3689348814741910323)) + ((((a0 - (((a0.toUInt64 >>> ((1 : Int32).toInt64.toUInt64 &&& Int64.toUInt64 63)).toInt64) &&& (Int64.ofNat 6148914691236517205))).toUInt64 >>> ((2 : Int32).toInt64.toUInt64 &&& Int64.toUInt64 63)).toInt64) &&& (Int64.ofNat 3689348814741910323))) + (((((a0 - (((a0.toUInt64 >>> ((1 : Int32).toInt64.toUInt64 &&& Int64.toUInt64 63)).toInt64) &&& (Int64.ofNat 6148914691236517205))) &&& (Int64.ofNat 3689348814741910323)) + ((((a0 - (((a0.toUInt64 >>> ((1 : Int32).toInt64.toUInt64 &&& Int64.toUInt64 63)).toInt64) &&& (Int64.ofNat 6148914691236517205))).toUInt64 >>> ((2 : Int32).toInt64.toUInt64 &&& Int64.toUInt64 63)).toInt64) &&& (Int64.ofNat 3689348814741910323))).toUInt64 >>> ((4 : Int32).toInt64.toUInt64 &&& Int64.toUInt64 63)).toInt64)) &&& (Int64.ofNat 1085102592571150095)).toUInt64 >>> ((8 : Int32).toInt64.toUInt64 &&& Int64.toUInt64 63)).toInt64)) + ((((((((a0 - (((a0.toUInt64 >>> ((1 : Int32).toInt64.toUInt64 &&& Int64.toUInt64 63)).toInt64) &&& (Int64.ofNat 6148914691236517205))) &&& (Int64.ofNat 3689348814741910323)) + ((((a0 - (((a0.toUInt64 >>> ((1 : Int32).toInt64.toUInt64 &&& Int64.toUInt64 63)).toInt64) &&& (Int64.ofNat 6148914691236517205))).toUInt64 >>> ((2 : Int32).toInt64.toUInt64 &&& Int64.toUInt64 63)).toInt64) &&& (Int64.ofNat 3689348814741910323))) + (((((a0 - (((a0.toUInt64 >>> ((1 : Int32).toInt64.toUInt64 &&& Int64.toUInt64 63)).toInt64) &&& (Int64.ofNat 6148914691236517205))) &&& (Int64.ofNat 3689348814741910323)) + ((((a0 - (((a0.toUInt64 >>> ((1 : Int32).toInt64.toUInt64 &&& Int64.toUInt64 63)).toInt64) &&& (Int64.ofNat 6148914691236517205))).toUInt64 >>> ((2 : Int32).toInt64.toUInt64 &&& Int64.toUInt64 63)).toInt64) &&& (Int64.ofNat 3689348814741910323))).toUInt64 >>> ((4 : Int32).toInt64.toUInt64 &&& Int64.toUInt64 63)).toInt64)) &&& (Int64.ofNat 1085102592571150095)) + (((((((a0 - (((a0.toUInt64 >>> ((1 : Int32).toInt64.toUInt64 &&& Int64.toUInt64 63)).toInt64) &&& (Int64.ofNat 6148914691236517205))) &&& (Int64.ofNat 3689348814741910323)) + ((((a0 - (((a0.toUInt64 >>> ((1 : Int32).toInt64.toUInt64 &&& Int64.toUInt64 63)).toInt64) &&& (Int64.ofNat 6148914691236517205))).toUInt64 >>> ((2 : Int32).toInt64.toUInt64 &&& Int64.toUInt64 63)).toInt64) &&& (Int64.ofNat 3689348814741910323))) + (((((a0 - (((a0.toUInt64 >>> ((1 : Int32).toInt64.toUInt64 &&& Int64.toUInt64 63)).toInt64) &&& (Int64.ofNat 6148914691236517205))) &&& (Int64.ofNat 3689348814741910323)) + ((((a0 - (((a0.toUInt64 >>> ((1 : Int32).toInt64.toUInt64 &&& Int64.toUInt64 63)).toInt64) &&& (Int64.ofNat 6148914691236517205))).toUInt64 >>> ((2 : Int32).toInt64.toUInt64 &&& Int64.toUInt64 63)).toInt64) &&& (Int64.ofNat 3689348814741910323))).toUInt64 >>> ((4 : Int32).toInt64.toUInt64 &&& Int64.toUInt64 63)).toInt64)) &&& (Int64.ofNat 1085102592571150095)).toUInt64 >>> ((8 : Int32).toInt64.toUInt64 &&& Int64.toUInt64 63)).toInt64)).toUInt64 >>> ((16 : Int32).toInt64.toUInt64 &&& Int64.toUInt64 63)).toInt64)).toUInt64 >>> ((32 : Int32).toInt64.toUInt64 &&& Int64.toUInt64 63)).toInt64)).toInt32) &&& (127 : Int32)), sM Ln I L c s)) rfl rfl h (by omega)

theorem w_J7_fill_53178_140_0 {Ln d c s : Nat} {I : Nat → Nat → Int32} {L : Nat → Nat → Int64} {Q : dd_O → Prop} {a1 : Int32} (hd : 28 ≤ d) (h : dd_Rn d m_J7_fill_53178 (5, [.ref 140, .int a1, .int 0, .int 64], [], sM Ln I L c s) Q) : dd_Ev d m_J7_fill_53178 [.ref 140, .int a1] (sM Ln I L c s) Q := by
  obtain ⟨e, rfl⟩ : ∃ e, d = e + 16 := ⟨d - 16, by omega⟩
  show dd_Rn (e + 16) m_J7_fill_53178 (0, [.ref 140, .int a1, .null, .null], [], sM Ln I L c s) Q
  exact dd_Rn.go 5 (cf' := (5, [.ref 140, .int a1, .int 0, .int 64], [], sM Ln I L c s)) rfl h (by omega)

theorem w_J7_fill_53178_140_5 {Ln d c s : Nat} {I : Nat → Nat → Int32} {L : Nat → Nat → Int64} {Q : dd_O → Prop} {a1 a2 a3 : Int32} (hd : 28 ≤ d) (h : ((a3 ≤ a2 → Q (none, .null, sM Ln I L c s)) ∧ (¬ (a3 ≤ a2) → ((0 ≤ a2 ∧ tn a2 < 64) ∧ dd_Rn d m_J7_fill_53178 (5, [.ref 140, .int a1, .int (a2 + 1), .int a3], [], sM Ln (dd_u I 140 (upd (I 140) (tn a2) a1)) L c s) Q)))) : dd_Rn d m_J7_fill_53178 (5, [.ref 140, .int a1, .int a2, .int a3], [], sM Ln I L c s) Q := by
  obtain ⟨e, rfl⟩ : ∃ e, d = e + 16 := ⟨d - 16, by omega⟩
  refine dd_Rn.ite 2 (c := a3 ≤ a2) (A := (20, [.ref 140, .int a1, .int a2, .int a3], [], sM Ln I L c s)) (B := (10, [.ref 140, .int a1, .int a2, .int a3], [], sM Ln I L c s)) rfl (fun hc => ?_) (fun hc => ?_) (by omega)
  · have h := h.1 hc
    exact dd_Rn.retK 0 (pc := 20) (ls := [.ref 140, .int a1, .int a2, .int a3]) (st := []) (M := sM Ln I L c s) (o := (none, .null, sM Ln I L c s)) rfl rfl h (by omega)
  · have h := h.2 hc
    obtain ⟨hc, h⟩ := h
    refine dd_Rn.chk 3 (c := 0 ≤ a2 ∧ tn a2 < 64) (A := (14, [.ref 140, .int a1, .int a2, .int a3], [], sM Ln (dd_u I 140 (upd (I 140) (tn a2) a1)) L c s)) rfl hc ?_ (by omega)
    exact dd_Rn.go 2 (cf' := (5, [.ref 140, .int a1, .int (a2 + 1), .int a3], [], sM Ln (dd_u I 140 (upd (I 140) (tn a2) a1)) L c s)) rfl h (by omega)

theorem w_J7_fill_53178_145_0 {Ln d c s : Nat} {I : Nat → Nat → Int32} {L : Nat → Nat → Int64} {Q : dd_O → Prop} {a1 : Int32} (hd : 28 ≤ d) (h : dd_Rn d m_J7_fill_53178 (5, [.ref 145, .int a1, .int 0, .int 31], [], sM Ln I L c s) Q) : dd_Ev d m_J7_fill_53178 [.ref 145, .int a1] (sM Ln I L c s) Q := by
  obtain ⟨e, rfl⟩ : ∃ e, d = e + 16 := ⟨d - 16, by omega⟩
  show dd_Rn (e + 16) m_J7_fill_53178 (0, [.ref 145, .int a1, .null, .null], [], sM Ln I L c s) Q
  exact dd_Rn.go 5 (cf' := (5, [.ref 145, .int a1, .int 0, .int 31], [], sM Ln I L c s)) rfl h (by omega)

theorem w_J7_fill_53178_145_5 {Ln d c s : Nat} {I : Nat → Nat → Int32} {L : Nat → Nat → Int64} {Q : dd_O → Prop} {a1 a2 a3 : Int32} (hd : 28 ≤ d) (h : ((a3 ≤ a2 → Q (none, .null, sM Ln I L c s)) ∧ (¬ (a3 ≤ a2) → ((0 ≤ a2 ∧ tn a2 < 31) ∧ dd_Rn d m_J7_fill_53178 (5, [.ref 145, .int a1, .int (a2 + 1), .int a3], [], sM Ln (dd_u I 145 (upd (I 145) (tn a2) a1)) L c s) Q)))) : dd_Rn d m_J7_fill_53178 (5, [.ref 145, .int a1, .int a2, .int a3], [], sM Ln I L c s) Q := by
  obtain ⟨e, rfl⟩ : ∃ e, d = e + 16 := ⟨d - 16, by omega⟩
  refine dd_Rn.ite 2 (c := a3 ≤ a2) (A := (20, [.ref 145, .int a1, .int a2, .int a3], [], sM Ln I L c s)) (B := (10, [.ref 145, .int a1, .int a2, .int a3], [], sM Ln I L c s)) rfl (fun hc => ?_) (fun hc => ?_) (by omega)
  · have h := h.1 hc
    exact dd_Rn.retK 0 (pc := 20) (ls := [.ref 145, .int a1, .int a2, .int a3]) (st := []) (M := sM Ln I L c s) (o := (none, .null, sM Ln I L c s)) rfl rfl h (by omega)
  · have h := h.2 hc
    obtain ⟨hc, h⟩ := h
    refine dd_Rn.chk 3 (c := 0 ≤ a2 ∧ tn a2 < 31) (A := (14, [.ref 145, .int a1, .int a2, .int a3], [], sM Ln (dd_u I 145 (upd (I 145) (tn a2) a1)) L c s)) rfl hc ?_ (by omega)
    exact dd_Rn.go 2 (cf' := (5, [.ref 145, .int a1, .int (a2 + 1), .int a3], [], sM Ln (dd_u I 145 (upd (I 145) (tn a2) a1)) L c s)) rfl h (by omega)

theorem w_J7_fill_53178_147_0 {Ln d c s : Nat} {I : Nat → Nat → Int32} {L : Nat → Nat → Int64} {Q : dd_O → Prop} {a1 : Int32} (hd : 28 ≤ d) (h : dd_Rn d m_J7_fill_53178 (5, [.ref 147, .int a1, .int 0, .int 465], [], sM Ln I L c s) Q) : dd_Ev d m_J7_fill_53178 [.ref 147, .int a1] (sM Ln I L c s) Q := by
  obtain ⟨e, rfl⟩ : ∃ e, d = e + 16 := ⟨d - 16, by omega⟩
  show dd_Rn (e + 16) m_J7_fill_53178 (0, [.ref 147, .int a1, .null, .null], [], sM Ln I L c s) Q
  exact dd_Rn.go 5 (cf' := (5, [.ref 147, .int a1, .int 0, .int 465], [], sM Ln I L c s)) rfl h (by omega)

theorem w_J7_fill_53178_147_5 {Ln d c s : Nat} {I : Nat → Nat → Int32} {L : Nat → Nat → Int64} {Q : dd_O → Prop} {a1 a2 a3 : Int32} (hd : 28 ≤ d) (h : ((a3 ≤ a2 → Q (none, .null, sM Ln I L c s)) ∧ (¬ (a3 ≤ a2) → ((0 ≤ a2 ∧ tn a2 < 465) ∧ dd_Rn d m_J7_fill_53178 (5, [.ref 147, .int a1, .int (a2 + 1), .int a3], [], sM Ln (dd_u I 147 (upd (I 147) (tn a2) a1)) L c s) Q)))) : dd_Rn d m_J7_fill_53178 (5, [.ref 147, .int a1, .int a2, .int a3], [], sM Ln I L c s) Q := by
  obtain ⟨e, rfl⟩ : ∃ e, d = e + 16 := ⟨d - 16, by omega⟩
  refine dd_Rn.ite 2 (c := a3 ≤ a2) (A := (20, [.ref 147, .int a1, .int a2, .int a3], [], sM Ln I L c s)) (B := (10, [.ref 147, .int a1, .int a2, .int a3], [], sM Ln I L c s)) rfl (fun hc => ?_) (fun hc => ?_) (by omega)
  · have h := h.1 hc
    exact dd_Rn.retK 0 (pc := 20) (ls := [.ref 147, .int a1, .int a2, .int a3]) (st := []) (M := sM Ln I L c s) (o := (none, .null, sM Ln I L c s)) rfl rfl h (by omega)
  · have h := h.2 hc
    obtain ⟨hc, h⟩ := h
    refine dd_Rn.chk 3 (c := 0 ≤ a2 ∧ tn a2 < 465) (A := (14, [.ref 147, .int a1, .int a2, .int a3], [], sM Ln (dd_u I 147 (upd (I 147) (tn a2) a1)) L c s)) rfl hc ?_ (by omega)
    exact dd_Rn.go 2 (cf' := (5, [.ref 147, .int a1, .int (a2 + 1), .int a3], [], sM Ln (dd_u I 147 (upd (I 147) (tn a2) a1)) L c s)) rfl h (by omega)
