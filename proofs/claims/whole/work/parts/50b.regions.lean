/-! Region lemmas, written by program (gen/regions_all.py) -/
theorem w_X3_readLine_0 {Ln d c s : Nat} {I : Nat → Nat → Int32} {L : Nat → Nat → Int64} {Q : dd_O → Prop} (hd : 28 ≤ d) (h : dd_Ev (d - 1) m_X4_isWord [.ref 131, .ref 1000000] (sM Ln I L c s) (dd_RI Ln c s (fun x1 I1 L1 => ((x1 = 0 → dd_Ev (d - 1) m_X4_isWord [.ref 131, .ref 1000001] (sM Ln I1 L1 c s) (dd_RI Ln c s (fun x2 I2 L2 => ((x2 = 0 → dd_Ev (d - 1) m_X4_isWord [.ref 131, .ref 1000002] (sM Ln I2 L2 c s) (dd_RI Ln c s (fun x3 I3 L3 => ((x3 = 0 → dd_Ev (d - 1) m_X4_refuse [.ref 131] (sM Ln I3 L3 c s) (dd_RI Ln c s (fun x4 I4 L4 => ((x4 = 0 ∨ x4 = 1) ∧ Q (none, .int x4, sM Ln I4 L4 c s))))) ∧ (¬ (x3 = 0) → dd_Ev (d - 1) m_X4_isWord [.ref 131, .ref 1000001] (sM Ln I3 L3 c s) (dd_RI Ln c s (fun x5 I5 L5 => ((x5 = 0 → dd_Ev (d - 1) m_X4_advance [.ref 131] (sM Ln I5 L5 c s) (dd_RV Ln c s (fun I6 L6 => dd_Ev (d - 1) m_X4_takeNumber [.ref 131, .int 20] (sM Ln I6 L6 c s) (dd_RI Ln c s (fun x7 I7 L7 => ((x7 = (-1) → Q (none, .int 0, sM Ln I7 L7 c s)) ∧ (¬ (x7 = (-1)) → dd_Rn d m_X3_readLine (86, [.ref 131, .int ((1100 : Int32) + x7), .int 1100, .int x7], [], sM Ln I7 L7 c s) Q))))))) ∧ (¬ (x5 = 0) → dd_Ev (d - 1) m_X4_advance [.ref 131] (sM Ln I5 L5 c s) (dd_RV Ln c s (fun I8 L8 => dd_Ev (d - 1) m_X4_takeNumber [.ref 131, .int 20] (sM Ln I8 L8 c s) (dd_RI Ln c s (fun x9 I9 L9 => ((x9 = (-1) → Q (none, .int 0, sM Ln I9 L9 c s)) ∧ (¬ (x9 = (-1)) → dd_Rn d m_X3_readLine (86, [.ref 131, .int ((1000 : Int32) + x9), .int 1000, .int x9], [], sM Ln I9 L9 c s) Q))))))))))))))) ∧ (¬ (x2 = 0) → dd_Ev (d - 1) m_X4_isWord [.ref 131, .ref 1000001] (sM Ln I2 L2 c s) (dd_RI Ln c s (fun x10 I10 L10 => ((x10 = 0 → dd_Ev (d - 1) m_X4_advance [.ref 131] (sM Ln I10 L10 c s) (dd_RV Ln c s (fun I11 L11 => dd_Ev (d - 1) m_X4_takeNumber [.ref 131, .int 20] (sM Ln I11 L11 c s) (dd_RI Ln c s (fun x12 I12 L12 => ((x12 = (-1) → Q (none, .int 0, sM Ln I12 L12 c s)) ∧ (¬ (x12 = (-1)) → dd_Rn d m_X3_readLine (86, [.ref 131, .int ((1100 : Int32) + x12), .int 1100, .int x12], [], sM Ln I12 L12 c s) Q))))))) ∧ (¬ (x10 = 0) → dd_Ev (d - 1) m_X4_advance [.ref 131] (sM Ln I10 L10 c s) (dd_RV Ln c s (fun I13 L13 => dd_Ev (d - 1) m_X4_takeNumber [.ref 131, .int 20] (sM Ln I13 L13 c s) (dd_RI Ln c s (fun x14 I14 L14 => ((x14 = (-1) → Q (none, .int 0, sM Ln I14 L14 c s)) ∧ (¬ (x14 = (-1)) → dd_Rn d m_X3_readLine (86, [.ref 131, .int ((1000 : Int32) + x14), .int 1000, .int x14], [], sM Ln I14 L14 c s) Q))))))))))))))) ∧ (¬ (x1 = 0) → dd_Ev (d - 1) m_X4_advance [.ref 131] (sM Ln I1 L1 c s) (dd_RV Ln c s (fun I15 L15 => dd_Rn d m_X3_readLine (86, [.ref 131, .int (-10), .null, .null], [], sM Ln I15 L15 c s) Q))))))) : dd_Ev d m_X3_readLine [.ref 131] (sM Ln I L c s) Q := by
  obtain ⟨e, rfl⟩ : ∃ e, d = e + 16 := ⟨d - 16, by omega⟩
  show dd_Rn (e + 16) m_X3_readLine (0, [.ref 131, .null, .null, .null], [], sM Ln I L c s) Q
  refine dd_Rn.cI 2 (pc := 3) (ls := [.ref 131, .null, .null, .null]) (st := [.ref 1000000, .ref 131]) (x := m_X4_isWord) (as := [.ref 131, .ref 1000000]) (rest := []) rfl rfl rfl rfl h ?_
  intro x1 I1 L1 h
  show dd_Rn (e + 16) m_X3_readLine (6, [.ref 131, .null, .null, .null], [.int x1], sM Ln I1 L1 c s) _
  refine dd_Rn.ite 0 (c := x1 = 0) (A := (19, [.ref 131, .null, .null, .null], [], sM Ln I1 L1 c s)) (B := (9, [.ref 131, .null, .null, .null], [], sM Ln I1 L1 c s)) rfl (fun hc => ?_) (fun hc => ?_) (by omega)
  · have h := h.1 hc
    refine dd_Rn.cI 2 (pc := 22) (ls := [.ref 131, .null, .null, .null]) (st := [.ref 1000001, .ref 131]) (x := m_X4_isWord) (as := [.ref 131, .ref 1000001]) (rest := []) rfl rfl rfl rfl h ?_
    intro x2 I2 L2 h
    show dd_Rn (e + 16) m_X3_readLine (25, [.ref 131, .null, .null, .null], [.int x2], sM Ln I2 L2 c s) _
    refine dd_Rn.ite 0 (c := x2 = 0) (A := (28, [.ref 131, .null, .null, .null], [], sM Ln I2 L2 c s)) (B := (37, [.ref 131, .null, .null, .null], [], sM Ln I2 L2 c s)) rfl (fun hc => ?_) (fun hc => ?_) (by omega)
    · have h := h.1 hc
      refine dd_Rn.cI 2 (pc := 31) (ls := [.ref 131, .null, .null, .null]) (st := [.ref 1000002, .ref 131]) (x := m_X4_isWord) (as := [.ref 131, .ref 1000002]) (rest := []) rfl rfl rfl rfl h ?_
      intro x3 I3 L3 h
      show dd_Rn (e + 16) m_X3_readLine (34, [.ref 131, .null, .null, .null], [.int x3], sM Ln I3 L3 c s) _
      refine dd_Rn.ite 0 (c := x3 = 0) (A := (81, [.ref 131, .null, .null, .null], [], sM Ln I3 L3 c s)) (B := (37, [.ref 131, .null, .null, .null], [], sM Ln I3 L3 c s)) rfl (fun hc => ?_) (fun hc => ?_) (by omega)
      · have h := h.1 hc
        refine dd_Rn.cI 1 (pc := 82) (ls := [.ref 131, .null, .null, .null]) (st := [.ref 131]) (x := m_X4_refuse) (as := [.ref 131]) (rest := []) rfl rfl rfl rfl h ?_
        intro x4 I4 L4 h
        show dd_Rn (e + 16) m_X3_readLine (85, [.ref 131, .null, .null, .null], [.int x4], sM Ln I4 L4 c s) _
        obtain ⟨hc, h⟩ := h
        exact dd_Rn.retB 0 (cf' := (85, [.ref 131, .null, .null, .null], [.int x4], sM Ln I4 L4 c s)) (v := x4) rfl rfl hc h (by omega)
      · have h := h.2 hc
        refine dd_Rn.cI 2 (pc := 40) (ls := [.ref 131, .null, .null, .null]) (st := [.ref 1000001, .ref 131]) (x := m_X4_isWord) (as := [.ref 131, .ref 1000001]) (rest := []) rfl rfl rfl rfl h ?_
        intro x5 I5 L5 h
        show dd_Rn (e + 16) m_X3_readLine (43, [.ref 131, .null, .null, .null], [.int x5], sM Ln I5 L5 c s) _
        refine dd_Rn.ite 0 (c := x5 = 0) (A := (52, [.ref 131, .null, .null, .null], [], sM Ln I5 L5 c s)) (B := (46, [.ref 131, .null, .null, .null], [], sM Ln I5 L5 c s)) rfl (fun hc => ?_) (fun hc => ?_) (by omega)
        · have h := h.1 hc
          refine dd_Rn.cV 3 (pc := 57) (ls := [.ref 131, .null, .int 1100, .null]) (st := [.ref 131]) (x := m_X4_advance) (as := [.ref 131]) (rest := []) rfl rfl rfl rfl h ?_
          intro I6 L6 h
          show dd_Rn (e + 16) m_X3_readLine (60, [.ref 131, .null, .int 1100, .null], [], sM Ln I6 L6 c s) _
          refine dd_Rn.cI 2 (pc := 63) (ls := [.ref 131, .null, .int 1100, .null]) (st := [.int 20, .ref 131]) (x := m_X4_takeNumber) (as := [.ref 131, .int 20]) (rest := []) rfl rfl rfl rfl h ?_
          intro x7 I7 L7 h
          show dd_Rn (e + 16) m_X3_readLine (66, [.ref 131, .null, .int 1100, .null], [.int x7], sM Ln I7 L7 c s) _
          refine dd_Rn.ite 3 (c := x7 = (-1)) (A := (72, [.ref 131, .null, .int 1100, .int x7], [], sM Ln I7 L7 c s)) (B := (74, [.ref 131, .null, .int 1100, .int x7], [], sM Ln I7 L7 c s)) rfl (fun hc => ?_) (fun hc => ?_) (by omega)
          · have h := h.1 hc
            exact dd_Rn.retK 1 (pc := 73) (ls := [.ref 131, .null, .int 1100, .int x7]) (st := [.int 0]) (M := sM Ln I7 L7 c s) (o := (none, .int 0, sM Ln I7 L7 c s)) rfl rfl h (by omega)
          · have h := h.2 hc
            exact dd_Rn.go 5 (cf' := (86, [.ref 131, .int ((1100 : Int32) + x7), .int 1100, .int x7], [], sM Ln I7 L7 c s)) rfl h (by omega)
        · have h := h.2 hc
          refine dd_Rn.cV 4 (pc := 57) (ls := [.ref 131, .null, .int 1000, .null]) (st := [.ref 131]) (x := m_X4_advance) (as := [.ref 131]) (rest := []) rfl rfl rfl rfl h ?_
          intro I8 L8 h
          show dd_Rn (e + 16) m_X3_readLine (60, [.ref 131, .null, .int 1000, .null], [], sM Ln I8 L8 c s) _
          refine dd_Rn.cI 2 (pc := 63) (ls := [.ref 131, .null, .int 1000, .null]) (st := [.int 20, .ref 131]) (x := m_X4_takeNumber) (as := [.ref 131, .int 20]) (rest := []) rfl rfl rfl rfl h ?_
          intro x9 I9 L9 h
          show dd_Rn (e + 16) m_X3_readLine (66, [.ref 131, .null, .int 1000, .null], [.int x9], sM Ln I9 L9 c s) _
          refine dd_Rn.ite 3 (c := x9 = (-1)) (A := (72, [.ref 131, .null, .int 1000, .int x9], [], sM Ln I9 L9 c s)) (B := (74, [.ref 131, .null, .int 1000, .int x9], [], sM Ln I9 L9 c s)) rfl (fun hc => ?_) (fun hc => ?_) (by omega)
          · have h := h.1 hc
            exact dd_Rn.retK 1 (pc := 73) (ls := [.ref 131, .null, .int 1000, .int x9]) (st := [.int 0]) (M := sM Ln I9 L9 c s) (o := (none, .int 0, sM Ln I9 L9 c s)) rfl rfl h (by omega)
          · have h := h.2 hc
            exact dd_Rn.go 5 (cf' := (86, [.ref 131, .int ((1000 : Int32) + x9), .int 1000, .int x9], [], sM Ln I9 L9 c s)) rfl h (by omega)
    · have h := h.2 hc
      refine dd_Rn.cI 2 (pc := 40) (ls := [.ref 131, .null, .null, .null]) (st := [.ref 1000001, .ref 131]) (x := m_X4_isWord) (as := [.ref 131, .ref 1000001]) (rest := []) rfl rfl rfl rfl h ?_
      intro x10 I10 L10 h
      show dd_Rn (e + 16) m_X3_readLine (43, [.ref 131, .null, .null, .null], [.int x10], sM Ln I10 L10 c s) _
      refine dd_Rn.ite 0 (c := x10 = 0) (A := (52, [.ref 131, .null, .null, .null], [], sM Ln I10 L10 c s)) (B := (46, [.ref 131, .null, .null, .null], [], sM Ln I10 L10 c s)) rfl (fun hc => ?_) (fun hc => ?_) (by omega)
      · have h := h.1 hc
        refine dd_Rn.cV 3 (pc := 57) (ls := [.ref 131, .null, .int 1100, .null]) (st := [.ref 131]) (x := m_X4_advance) (as := [.ref 131]) (rest := []) rfl rfl rfl rfl h ?_
        intro I11 L11 h
        show dd_Rn (e + 16) m_X3_readLine (60, [.ref 131, .null, .int 1100, .null], [], sM Ln I11 L11 c s) _
        refine dd_Rn.cI 2 (pc := 63) (ls := [.ref 131, .null, .int 1100, .null]) (st := [.int 20, .ref 131]) (x := m_X4_takeNumber) (as := [.ref 131, .int 20]) (rest := []) rfl rfl rfl rfl h ?_
        intro x12 I12 L12 h
        show dd_Rn (e + 16) m_X3_readLine (66, [.ref 131, .null, .int 1100, .null], [.int x12], sM Ln I12 L12 c s) _
        refine dd_Rn.ite 3 (c := x12 = (-1)) (A := (72, [.ref 131, .null, .int 1100, .int x12], [], sM Ln I12 L12 c s)) (B := (74, [.ref 131, .null, .int 1100, .int x12], [], sM Ln I12 L12 c s)) rfl (fun hc => ?_) (fun hc => ?_) (by omega)
        · have h := h.1 hc
          exact dd_Rn.retK 1 (pc := 73) (ls := [.ref 131, .null, .int 1100, .int x12]) (st := [.int 0]) (M := sM Ln I12 L12 c s) (o := (none, .int 0, sM Ln I12 L12 c s)) rfl rfl h (by omega)
        · have h := h.2 hc
          exact dd_Rn.go 5 (cf' := (86, [.ref 131, .int ((1100 : Int32) + x12), .int 1100, .int x12], [], sM Ln I12 L12 c s)) rfl h (by omega)
      · have h := h.2 hc
        refine dd_Rn.cV 4 (pc := 57) (ls := [.ref 131, .null, .int 1000, .null]) (st := [.ref 131]) (x := m_X4_advance) (as := [.ref 131]) (rest := []) rfl rfl rfl rfl h ?_
        intro I13 L13 h
        show dd_Rn (e + 16) m_X3_readLine (60, [.ref 131, .null, .int 1000, .null], [], sM Ln I13 L13 c s) _
        refine dd_Rn.cI 2 (pc := 63) (ls := [.ref 131, .null, .int 1000, .null]) (st := [.int 20, .ref 131]) (x := m_X4_takeNumber) (as := [.ref 131, .int 20]) (rest := []) rfl rfl rfl rfl h ?_
        intro x14 I14 L14 h
        show dd_Rn (e + 16) m_X3_readLine (66, [.ref 131, .null, .int 1000, .null], [.int x14], sM Ln I14 L14 c s) _
        refine dd_Rn.ite 3 (c := x14 = (-1)) (A := (72, [.ref 131, .null, .int 1000, .int x14], [], sM Ln I14 L14 c s)) (B := (74, [.ref 131, .null, .int 1000, .int x14], [], sM Ln I14 L14 c s)) rfl (fun hc => ?_) (fun hc => ?_) (by omega)
        · have h := h.1 hc
          exact dd_Rn.retK 1 (pc := 73) (ls := [.ref 131, .null, .int 1000, .int x14]) (st := [.int 0]) (M := sM Ln I14 L14 c s) (o := (none, .int 0, sM Ln I14 L14 c s)) rfl rfl h (by omega)
        · have h := h.2 hc
          exact dd_Rn.go 5 (cf' := (86, [.ref 131, .int ((1000 : Int32) + x14), .int 1000, .int x14], [], sM Ln I14 L14 c s)) rfl h (by omega)
  · have h := h.2 hc
    refine dd_Rn.cV 1 (pc := 10) (ls := [.ref 131, .null, .null, .null]) (st := [.ref 131]) (x := m_X4_advance) (as := [.ref 131]) (rest := []) rfl rfl rfl rfl h ?_
    intro I15 L15 h
    show dd_Rn (e + 16) m_X3_readLine (13, [.ref 131, .null, .null, .null], [], sM Ln I15 L15 c s) _
    exact dd_Rn.go 3 (cf' := (86, [.ref 131, .int (-10), .null, .null], [], sM Ln I15 L15 c s)) rfl h (by omega)

theorem w_X3_readLine_86 {Ln d c s : Nat} {I : Nat → Nat → Int32} {L : Nat → Nat → Int64} {Q : dd_O → Prop} {a1 : Int32} {a2 a3 : Value} (hd : 28 ≤ d) (h : dd_Ev (d - 1) m_X4_isWord [.ref 131, .ref 1000003] (sM Ln I L c s) (dd_RI Ln c s (fun x1 I1 L1 => ((x1 = 0 → dd_Ev (d - 1) m_X2_add [.ref 27, .int (-1)] (sM Ln I1 L1 c s) (dd_RV Ln c s (fun I2 L2 => dd_Rn d m_X3_readLine (119, [.ref 131, .int a1, a2, a3], [], sM Ln I2 L2 c s) Q))) ∧ (¬ (x1 = 0) → dd_Ev (d - 1) m_X4_advance [.ref 131] (sM Ln I1 L1 c s) (dd_RV Ln c s (fun I3 L3 => dd_Ev (d - 1) m_X3_readCondition [.ref 131] (sM Ln I3 L3 c s) (dd_RI Ln c s (fun x4 I4 L4 => ((x4 = 0 → Q (none, .int 0, sM Ln I4 L4 c s)) ∧ (¬ (x4 = 0) → dd_Rn d m_X3_readLine (119, [.ref 131, .int a1, a2, a3], [], sM Ln I4 L4 c s) Q))))))))))) : dd_Rn d m_X3_readLine (86, [.ref 131, .int a1, a2, a3], [], sM Ln I L c s) Q := by
  obtain ⟨e, rfl⟩ : ∃ e, d = e + 16 := ⟨d - 16, by omega⟩
  refine dd_Rn.cI 2 (pc := 89) (ls := [.ref 131, .int a1, a2, a3]) (st := [.ref 1000003, .ref 131]) (x := m_X4_isWord) (as := [.ref 131, .ref 1000003]) (rest := []) rfl rfl rfl rfl h ?_
  intro x1 I1 L1 h
  show dd_Rn (e + 16) m_X3_readLine (92, [.ref 131, .int a1, a2, a3], [.int x1], sM Ln I1 L1 c s) _
  refine dd_Rn.ite 0 (c := x1 = 0) (A := (95, [.ref 131, .int a1, a2, a3], [], sM Ln I1 L1 c s)) (B := (106, [.ref 131, .int a1, a2, a3], [], sM Ln I1 L1 c s)) rfl (fun hc => ?_) (fun hc => ?_) (by omega)
  · have h := h.1 hc
    refine dd_Rn.cV 3 (pc := 100) (ls := [.ref 131, .int a1, a2, a3]) (st := [.int (-1), .ref 27]) (x := m_X2_add) (as := [.ref 27, .int (-1)]) (rest := []) rfl rfl rfl rfl h ?_
    intro I2 L2 h
    show dd_Rn (e + 16) m_X3_readLine (103, [.ref 131, .int a1, a2, a3], [], sM Ln I2 L2 c s) _
    exact dd_Rn.go 1 (cf' := (119, [.ref 131, .int a1, a2, a3], [], sM Ln I2 L2 c s)) rfl h (by omega)
  · have h := h.2 hc
    refine dd_Rn.cV 1 (pc := 107) (ls := [.ref 131, .int a1, a2, a3]) (st := [.ref 131]) (x := m_X4_advance) (as := [.ref 131]) (rest := []) rfl rfl rfl rfl h ?_
    intro I3 L3 h
    show dd_Rn (e + 16) m_X3_readLine (110, [.ref 131, .int a1, a2, a3], [], sM Ln I3 L3 c s) _
    refine dd_Rn.cI 1 (pc := 111) (ls := [.ref 131, .int a1, a2, a3]) (st := [.ref 131]) (x := m_X3_readCondition) (as := [.ref 131]) (rest := []) rfl rfl rfl rfl h ?_
    intro x4 I4 L4 h
    show dd_Rn (e + 16) m_X3_readLine (114, [.ref 131, .int a1, a2, a3], [.int x4], sM Ln I4 L4 c s) _
    refine dd_Rn.ite 0 (c := x4 = 0) (A := (117, [.ref 131, .int a1, a2, a3], [], sM Ln I4 L4 c s)) (B := (119, [.ref 131, .int a1, a2, a3], [], sM Ln I4 L4 c s)) rfl (fun hc => ?_) (fun hc => ?_) (by omega)
    · have h := h.1 hc
      exact dd_Rn.retK 1 (pc := 118) (ls := [.ref 131, .int a1, a2, a3]) (st := [.int 0]) (M := sM Ln I4 L4 c s) (o := (none, .int 0, sM Ln I4 L4 c s)) rfl rfl h (by omega)
    · have h := h.2 hc
      exact dd_Rn.go 0 (cf' := (119, [.ref 131, .int a1, a2, a3], [], sM Ln I4 L4 c s)) rfl h (by omega)

theorem w_X3_readLine_119 {Ln d c s : Nat} {I : Nat → Nat → Int32} {L : Nat → Nat → Int64} {Q : dd_O → Prop} {a1 : Int32} {a2 a3 : Value} (hd : 28 ≤ d) (h : dd_Ev (d - 1) m_X2_add [.ref 27, .int a1] (sM Ln I L c s) (dd_RV Ln c s (fun I1 L1 => Q (none, .int 1, sM Ln I1 L1 c s)))) : dd_Rn d m_X3_readLine (119, [.ref 131, .int a1, a2, a3], [], sM Ln I L c s) Q := by
  obtain ⟨e, rfl⟩ : ∃ e, d = e + 16 := ⟨d - 16, by omega⟩
  refine dd_Rn.cV 3 (pc := 124) (ls := [.ref 131, .int a1, a2, a3]) (st := [.int a1, .ref 27]) (x := m_X2_add) (as := [.ref 27, .int a1]) (rest := []) rfl rfl rfl rfl h ?_
  intro I1 L1 h
  show dd_Rn (e + 16) m_X3_readLine (127, [.ref 131, .int a1, a2, a3], [], sM Ln I1 L1 c s) _
  exact dd_Rn.retK 1 (pc := 128) (ls := [.ref 131, .int a1, a2, a3]) (st := [.int 1]) (M := sM Ln I1 L1 c s) (o := (none, .int 1, sM Ln I1 L1 c s)) rfl rfl h (by omega)

theorem w_X3_readCondition_0 {Ln d c s : Nat} {I : Nat → Nat → Int32} {L : Nat → Nat → Int64} {Q : dd_O → Prop} (hd : 28 ≤ d) (h : dd_Rn d m_X3_readCondition (19, [.ref 131, .int 0, .int 0], [], sM Ln (dd_u (dd_u (dd_u I 131 (upd (I 131) 8 0)) 131 (upd (upd (I 131) 8 0) 9 0)) 131 (upd (upd (upd (I 131) 8 0) 9 0) 10 0)) L c s) Q) : dd_Ev d m_X3_readCondition [.ref 131] (sM Ln I L c s) Q := by
  obtain ⟨e, rfl⟩ : ∃ e, d = e + 16 := ⟨d - 16, by omega⟩
  show dd_Rn (e + 16) m_X3_readCondition (0, [.ref 131, .null, .null], [], sM Ln I L c s) Q
  exact dd_Rn.go 13 (cf' := (19, [.ref 131, .int 0, .int 0], [], sM Ln (dd_u (dd_u (dd_u I 131 (upd (I 131) 8 0)) 131 (upd (upd (I 131) 8 0) 9 0)) 131 (upd (upd (upd (I 131) 8 0) 9 0) 10 0)) L c s)) rfl h (by omega)

theorem w_X3_readCondition_19 {Ln d c s : Nat} {I : Nat → Nat → Int32} {L : Nat → Nat → Int64} {Q : dd_O → Prop} {a1 a2 : Int32} (hd : 28 ≤ d) (h : (((400 : Int32) < a2 → dd_Ev (d - 1) m_X4_refuse [.ref 131] (sM Ln I L c s) (dd_RI Ln c s (fun x1 I1 L1 => ((x1 = 0 ∨ x1 = 1) ∧ Q (none, .int x1, sM Ln I1 L1 c s))))) ∧ (¬ ((400 : Int32) < a2) → ((a1 = 0 → dd_Ev (d - 1) m_X4_isWord [.ref 131, .ref 1000004] (sM Ln I L c s) (dd_RI Ln c s (fun x2 I2 L2 => ((x2 = 0 → dd_Ev (d - 1) m_X4_isSign [.ref 131, .int 40] (sM Ln I2 L2 c s) (dd_RI Ln c s (fun x3 I3 L3 => ((x3 = 0 → dd_Ev (d - 1) m_X3_readAtom [.ref 131] (sM Ln I3 L3 c s) (dd_RI Ln c s (fun x4 I4 L4 => ((x4 = 0 → Q (none, .int 0, sM Ln I4 L4 c s)) ∧ (¬ (x4 = 0) → dd_Rn d m_X3_readCondition (19, [.ref 131, .int 1, .int (a2 + 1)], [], sM Ln I4 L4 c s) Q))))) ∧ (¬ (x3 = 0) → ((I3 131 9 < 6 → dd_Ev (d - 1) m_X3_open [.ref 131] (sM Ln I3 L3 c s) (dd_RV Ln c s (fun I5 L5 => dd_Rn d m_X3_readCondition (19, [.ref 131, .int a1, .int (a2 + 1)], [], sM Ln I5 L5 c s) Q))) ∧ (¬ (I3 131 9 < 6) → dd_Ev (d - 1) m_X4_refuse [.ref 131] (sM Ln I3 L3 c s) (dd_RI Ln c s (fun x6 I6 L6 => ((x6 = 0 ∨ x6 = 1) ∧ Q (none, .int x6, sM Ln I6 L6 c s))))))))))) ∧ (¬ (x2 = 0) → ((I2 131 9 < 6 → dd_Ev (d - 1) m_X3_open [.ref 131] (sM Ln I2 L2 c s) (dd_RV Ln c s (fun I7 L7 => dd_Rn d m_X3_readCondition (19, [.ref 131, .int a1, .int (a2 + 1)], [], sM Ln I7 L7 c s) Q))) ∧ (¬ (I2 131 9 < 6) → dd_Ev (d - 1) m_X4_refuse [.ref 131] (sM Ln I2 L2 c s) (dd_RI Ln c s (fun x8 I8 L8 => ((x8 = 0 ∨ x8 = 1) ∧ Q (none, .int x8, sM Ln I8 L8 c s))))))))))) ∧ (¬ (a1 = 0) → dd_Ev (d - 1) m_X4_isWord [.ref 131, .ref 1000015] (sM Ln I L c s) (dd_RI Ln c s (fun x9 I9 L9 => ((x9 = 0 → dd_Ev (d - 1) m_X4_isWord [.ref 131, .ref 1000016] (sM Ln I9 L9 c s) (dd_RI Ln c s (fun x10 I10 L10 => ((x10 = 0 → ((I10 131 10 = 0 → dd_Ev (d - 1) m_X3_addJoins [.ref 131, .int (-6)] (sM Ln I10 L10 c s) (dd_RV Ln c s (fun I11 L11 => Q (none, .int 1, sM Ln I11 L11 c s)))) ∧ (¬ (I10 131 10 = 0) → dd_Ev (d - 1) m_X4_isSign [.ref 131, .int 41] (sM Ln I10 L10 c s) (dd_RI Ln c s (fun x12 I12 L12 => ((x12 = 0 → dd_Ev (d - 1) m_X4_refuse [.ref 131] (sM Ln I12 L12 c s) (dd_RI Ln c s (fun x13 I13 L13 => ((x13 = 0 ∨ x13 = 1) ∧ Q (none, .int x13, sM Ln I13 L13 c s))))) ∧ (¬ (x12 = 0) → dd_Ev (d - 1) m_X3_close [.ref 131] (sM Ln I12 L12 c s) (dd_RV Ln c s (fun I14 L14 => dd_Rn d m_X3_readCondition (19, [.ref 131, .int a1, .int (a2 + 1)], [], sM Ln I14 L14 c s) Q))))))))) ∧ (¬ (x10 = 0) → dd_Ev (d - 1) m_X4_isWord [.ref 131, .ref 1000015] (sM Ln I10 L10 c s) (dd_RI Ln c s (fun x15 I15 L15 => ((x15 = 0 → dd_Ev (d - 1) m_X3_join [.ref 131, .int (-6)] (sM Ln I15 L15 c s) (dd_RV Ln c s (fun I16 L16 => dd_Rn d m_X3_readCondition (19, [.ref 131, .int 0, .int (a2 + 1)], [], sM Ln I16 L16 c s) Q))) ∧ (¬ (x15 = 0) → dd_Ev (d - 1) m_X3_join [.ref 131, .int (-5)] (sM Ln I15 L15 c s) (dd_RV Ln c s (fun I17 L17 => dd_Rn d m_X3_readCondition (19, [.ref 131, .int 0, .int (a2 + 1)], [], sM Ln I17 L17 c s) Q))))))))))) ∧ (¬ (x9 = 0) → dd_Ev (d - 1) m_X4_isWord [.ref 131, .ref 1000015] (sM Ln I9 L9 c s) (dd_RI Ln c s (fun x18 I18 L18 => ((x18 = 0 → dd_Ev (d - 1) m_X3_join [.ref 131, .int (-6)] (sM Ln I18 L18 c s) (dd_RV Ln c s (fun I19 L19 => dd_Rn d m_X3_readCondition (19, [.ref 131, .int 0, .int (a2 + 1)], [], sM Ln I19 L19 c s) Q))) ∧ (¬ (x18 = 0) → dd_Ev (d - 1) m_X3_join [.ref 131, .int (-5)] (sM Ln I18 L18 c s) (dd_RV Ln c s (fun I20 L20 => dd_Rn d m_X3_readCondition (19, [.ref 131, .int 0, .int (a2 + 1)], [], sM Ln I20 L20 c s) Q))))))))))))))) : dd_Rn d m_X3_readCondition (19, [.ref 131, .int a1, .int a2], [], sM Ln I L c s) Q := by
  obtain ⟨e, rfl⟩ : ∃ e, d = e + 16 := ⟨d - 16, by omega⟩
  refine dd_Rn.ite 2 (c := (400 : Int32) < a2) (A := (168, [.ref 131, .int a1, .int a2], [], sM Ln I L c s)) (B := (26, [.ref 131, .int a1, .int a2], [], sM Ln I L c s)) rfl (fun hc => ?_) (fun hc => ?_) (by omega)
  · have h := h.1 hc
    refine dd_Rn.cI 1 (pc := 169) (ls := [.ref 131, .int a1, .int a2]) (st := [.ref 131]) (x := m_X4_refuse) (as := [.ref 131]) (rest := []) rfl rfl rfl rfl h ?_
    intro x1 I1 L1 h
    show dd_Rn (e + 16) m_X3_readCondition (172, [.ref 131, .int a1, .int a2], [.int x1], sM Ln I1 L1 c s) _
    obtain ⟨hc, h⟩ := h
    exact dd_Rn.retB 0 (cf' := (172, [.ref 131, .int a1, .int a2], [.int x1], sM Ln I1 L1 c s)) (v := x1) rfl rfl hc h (by omega)
  · have h := h.2 hc
    refine dd_Rn.ite 1 (c := a1 = 0) (A := (30, [.ref 131, .int a1, .int a2], [], sM Ln I L c s)) (B := (83, [.ref 131, .int a1, .int a2], [], sM Ln I L c s)) rfl (fun hc => ?_) (fun hc => ?_) (by omega)
    · have h := h.1 hc
      refine dd_Rn.cI 2 (pc := 33) (ls := [.ref 131, .int a1, .int a2]) (st := [.ref 1000004, .ref 131]) (x := m_X4_isWord) (as := [.ref 131, .ref 1000004]) (rest := []) rfl rfl rfl rfl h ?_
      intro x2 I2 L2 h
      show dd_Rn (e + 16) m_X3_readCondition (36, [.ref 131, .int a1, .int a2], [.int x2], sM Ln I2 L2 c s) _
      refine dd_Rn.ite 0 (c := x2 = 0) (A := (39, [.ref 131, .int a1, .int a2], [], sM Ln I2 L2 c s)) (B := (48, [.ref 131, .int a1, .int a2], [], sM Ln I2 L2 c s)) rfl (fun hc => ?_) (fun hc => ?_) (by omega)
      · have h := h.1 hc
        refine dd_Rn.cI 2 (pc := 42) (ls := [.ref 131, .int a1, .int a2]) (st := [.int 40, .ref 131]) (x := m_X4_isSign) (as := [.ref 131, .int 40]) (rest := []) rfl rfl rfl rfl h ?_
        intro x3 I3 L3 h
        show dd_Rn (e + 16) m_X3_readCondition (45, [.ref 131, .int a1, .int a2], [.int x3], sM Ln I3 L3 c s) _
        refine dd_Rn.ite 0 (c := x3 = 0) (A := (69, [.ref 131, .int a1, .int a2], [], sM Ln I3 L3 c s)) (B := (48, [.ref 131, .int a1, .int a2], [], sM Ln I3 L3 c s)) rfl (fun hc => ?_) (fun hc => ?_) (by omega)
        · have h := h.1 hc
          refine dd_Rn.cI 1 (pc := 70) (ls := [.ref 131, .int a1, .int a2]) (st := [.ref 131]) (x := m_X3_readAtom) (as := [.ref 131]) (rest := []) rfl rfl rfl rfl h ?_
          intro x4 I4 L4 h
          show dd_Rn (e + 16) m_X3_readCondition (73, [.ref 131, .int a1, .int a2], [.int x4], sM Ln I4 L4 c s) _
          refine dd_Rn.ite 0 (c := x4 = 0) (A := (76, [.ref 131, .int a1, .int a2], [], sM Ln I4 L4 c s)) (B := (78, [.ref 131, .int a1, .int a2], [], sM Ln I4 L4 c s)) rfl (fun hc => ?_) (fun hc => ?_) (by omega)
          · have h := h.1 hc
            exact dd_Rn.retK 1 (pc := 77) (ls := [.ref 131, .int a1, .int a2]) (st := [.int 0]) (M := sM Ln I4 L4 c s) (o := (none, .int 0, sM Ln I4 L4 c s)) rfl rfl h (by omega)
          · have h := h.2 hc
            exact dd_Rn.go 5 (cf' := (19, [.ref 131, .int 1, .int (a2 + 1)], [], sM Ln I4 L4 c s)) rfl h (by omega)
        · have h := h.2 hc
          refine dd_Rn.ite 3 (c := I3 131 9 < 6) (A := (62, [.ref 131, .int a1, .int a2], [], sM Ln I3 L3 c s)) (B := (57, [.ref 131, .int a1, .int a2], [], sM Ln I3 L3 c s)) rfl (fun hc => ?_) (fun hc => ?_) (by omega)
          · have h := h.1 hc
            refine dd_Rn.cV 1 (pc := 63) (ls := [.ref 131, .int a1, .int a2]) (st := [.ref 131]) (x := m_X3_open) (as := [.ref 131]) (rest := []) rfl rfl rfl rfl h ?_
            intro I5 L5 h
            show dd_Rn (e + 16) m_X3_readCondition (66, [.ref 131, .int a1, .int a2], [], sM Ln I5 L5 c s) _
            exact dd_Rn.go 3 (cf' := (19, [.ref 131, .int a1, .int (a2 + 1)], [], sM Ln I5 L5 c s)) rfl h (by omega)
          · have h := h.2 hc
            refine dd_Rn.cI 1 (pc := 58) (ls := [.ref 131, .int a1, .int a2]) (st := [.ref 131]) (x := m_X4_refuse) (as := [.ref 131]) (rest := []) rfl rfl rfl rfl h ?_
            intro x6 I6 L6 h
            show dd_Rn (e + 16) m_X3_readCondition (61, [.ref 131, .int a1, .int a2], [.int x6], sM Ln I6 L6 c s) _
            obtain ⟨hc, h⟩ := h
            exact dd_Rn.retB 0 (cf' := (61, [.ref 131, .int a1, .int a2], [.int x6], sM Ln I6 L6 c s)) (v := x6) rfl rfl hc h (by omega)
      · have h := h.2 hc
        refine dd_Rn.ite 3 (c := I2 131 9 < 6) (A := (62, [.ref 131, .int a1, .int a2], [], sM Ln I2 L2 c s)) (B := (57, [.ref 131, .int a1, .int a2], [], sM Ln I2 L2 c s)) rfl (fun hc => ?_) (fun hc => ?_) (by omega)
        · have h := h.1 hc
          refine dd_Rn.cV 1 (pc := 63) (ls := [.ref 131, .int a1, .int a2]) (st := [.ref 131]) (x := m_X3_open) (as := [.ref 131]) (rest := []) rfl rfl rfl rfl h ?_
          intro I7 L7 h
          show dd_Rn (e + 16) m_X3_readCondition (66, [.ref 131, .int a1, .int a2], [], sM Ln I7 L7 c s) _
          exact dd_Rn.go 3 (cf' := (19, [.ref 131, .int a1, .int (a2 + 1)], [], sM Ln I7 L7 c s)) rfl h (by omega)
        · have h := h.2 hc
          refine dd_Rn.cI 1 (pc := 58) (ls := [.ref 131, .int a1, .int a2]) (st := [.ref 131]) (x := m_X4_refuse) (as := [.ref 131]) (rest := []) rfl rfl rfl rfl h ?_
          intro x8 I8 L8 h
          show dd_Rn (e + 16) m_X3_readCondition (61, [.ref 131, .int a1, .int a2], [.int x8], sM Ln I8 L8 c s) _
          obtain ⟨hc, h⟩ := h
          exact dd_Rn.retB 0 (cf' := (61, [.ref 131, .int a1, .int a2], [.int x8], sM Ln I8 L8 c s)) (v := x8) rfl rfl hc h (by omega)
    · have h := h.2 hc
      refine dd_Rn.cI 2 (pc := 86) (ls := [.ref 131, .int a1, .int a2]) (st := [.ref 1000015, .ref 131]) (x := m_X4_isWord) (as := [.ref 131, .ref 1000015]) (rest := []) rfl rfl rfl rfl h ?_
      intro x9 I9 L9 h
      show dd_Rn (e + 16) m_X3_readCondition (89, [.ref 131, .int a1, .int a2], [.int x9], sM Ln I9 L9 c s) _
      refine dd_Rn.ite 0 (c := x9 = 0) (A := (92, [.ref 131, .int a1, .int a2], [], sM Ln I9 L9 c s)) (B := (101, [.ref 131, .int a1, .int a2], [], sM Ln I9 L9 c s)) rfl (fun hc => ?_) (fun hc => ?_) (by omega)
      · have h := h.1 hc
        refine dd_Rn.cI 2 (pc := 95) (ls := [.ref 131, .int a1, .int a2]) (st := [.ref 1000016, .ref 131]) (x := m_X4_isWord) (as := [.ref 131, .ref 1000016]) (rest := []) rfl rfl rfl rfl h ?_
        intro x10 I10 L10 h
        show dd_Rn (e + 16) m_X3_readCondition (98, [.ref 131, .int a1, .int a2], [.int x10], sM Ln I10 L10 c s) _
        refine dd_Rn.ite 0 (c := x10 = 0) (A := (126, [.ref 131, .int a1, .int a2], [], sM Ln I10 L10 c s)) (B := (101, [.ref 131, .int a1, .int a2], [], sM Ln I10 L10 c s)) rfl (fun hc => ?_) (fun hc => ?_) (by omega)
        · have h := h.1 hc
          refine dd_Rn.ite 2 (c := I10 131 10 = 0) (A := (133, [.ref 131, .int a1, .int a2], [], sM Ln I10 L10 c s)) (B := (141, [.ref 131, .int a1, .int a2], [], sM Ln I10 L10 c s)) rfl (fun hc => ?_) (fun hc => ?_) (by omega)
          · have h := h.1 hc
            refine dd_Rn.cV 2 (pc := 136) (ls := [.ref 131, .int a1, .int a2]) (st := [.int (-6), .ref 131]) (x := m_X3_addJoins) (as := [.ref 131, .int (-6)]) (rest := []) rfl rfl rfl rfl h ?_
            intro I11 L11 h
            show dd_Rn (e + 16) m_X3_readCondition (139, [.ref 131, .int a1, .int a2], [], sM Ln I11 L11 c s) _
            exact dd_Rn.retK 1 (pc := 140) (ls := [.ref 131, .int a1, .int a2]) (st := [.int 1]) (M := sM Ln I11 L11 c s) (o := (none, .int 1, sM Ln I11 L11 c s)) rfl rfl h (by omega)
          · have h := h.2 hc
            refine dd_Rn.cI 2 (pc := 144) (ls := [.ref 131, .int a1, .int a2]) (st := [.int 41, .ref 131]) (x := m_X4_isSign) (as := [.ref 131, .int 41]) (rest := []) rfl rfl rfl rfl h ?_
            intro x12 I12 L12 h
            show dd_Rn (e + 16) m_X3_readCondition (147, [.ref 131, .int a1, .int a2], [.int x12], sM Ln I12 L12 c s) _
            refine dd_Rn.ite 0 (c := x12 = 0) (A := (157, [.ref 131, .int a1, .int a2], [], sM Ln I12 L12 c s)) (B := (150, [.ref 131, .int a1, .int a2], [], sM Ln I12 L12 c s)) rfl (fun hc => ?_) (fun hc => ?_) (by omega)
            · have h := h.1 hc
              refine dd_Rn.cI 1 (pc := 158) (ls := [.ref 131, .int a1, .int a2]) (st := [.ref 131]) (x := m_X4_refuse) (as := [.ref 131]) (rest := []) rfl rfl rfl rfl h ?_
              intro x13 I13 L13 h
              show dd_Rn (e + 16) m_X3_readCondition (161, [.ref 131, .int a1, .int a2], [.int x13], sM Ln I13 L13 c s) _
              obtain ⟨hc, h⟩ := h
              exact dd_Rn.retB 0 (cf' := (161, [.ref 131, .int a1, .int a2], [.int x13], sM Ln I13 L13 c s)) (v := x13) rfl rfl hc h (by omega)
            · have h := h.2 hc
              refine dd_Rn.cV 1 (pc := 151) (ls := [.ref 131, .int a1, .int a2]) (st := [.ref 131]) (x := m_X3_close) (as := [.ref 131]) (rest := []) rfl rfl rfl rfl h ?_
              intro I14 L14 h
              show dd_Rn (e + 16) m_X3_readCondition (154, [.ref 131, .int a1, .int a2], [], sM Ln I14 L14 c s) _
              exact dd_Rn.go 3 (cf' := (19, [.ref 131, .int a1, .int (a2 + 1)], [], sM Ln I14 L14 c s)) rfl h (by omega)
        · have h := h.2 hc
          refine dd_Rn.cI 3 (pc := 105) (ls := [.ref 131, .int a1, .int a2]) (st := [.ref 1000015, .ref 131, .ref 131]) (x := m_X4_isWord) (as := [.ref 131, .ref 1000015]) (rest := [.ref 131]) rfl rfl rfl rfl h ?_
          intro x15 I15 L15 h
          show dd_Rn (e + 16) m_X3_readCondition (108, [.ref 131, .int a1, .int a2], [.int x15, .ref 131], sM Ln I15 L15 c s) _
          refine dd_Rn.ite 0 (c := x15 = 0) (A := (116, [.ref 131, .int a1, .int a2], [.ref 131], sM Ln I15 L15 c s)) (B := (111, [.ref 131, .int a1, .int a2], [.ref 131], sM Ln I15 L15 c s)) rfl (fun hc => ?_) (fun hc => ?_) (by omega)
          · have h := h.1 hc
            refine dd_Rn.cV 1 (pc := 118) (ls := [.ref 131, .int a1, .int a2]) (st := [.int (-6), .ref 131]) (x := m_X3_join) (as := [.ref 131, .int (-6)]) (rest := []) rfl rfl rfl rfl h ?_
            intro I16 L16 h
            show dd_Rn (e + 16) m_X3_readCondition (121, [.ref 131, .int a1, .int a2], [], sM Ln I16 L16 c s) _
            exact dd_Rn.go 5 (cf' := (19, [.ref 131, .int 0, .int (a2 + 1)], [], sM Ln I16 L16 c s)) rfl h (by omega)
          · have h := h.2 hc
            refine dd_Rn.cV 2 (pc := 118) (ls := [.ref 131, .int a1, .int a2]) (st := [.int (-5), .ref 131]) (x := m_X3_join) (as := [.ref 131, .int (-5)]) (rest := []) rfl rfl rfl rfl h ?_
            intro I17 L17 h
            show dd_Rn (e + 16) m_X3_readCondition (121, [.ref 131, .int a1, .int a2], [], sM Ln I17 L17 c s) _
            exact dd_Rn.go 5 (cf' := (19, [.ref 131, .int 0, .int (a2 + 1)], [], sM Ln I17 L17 c s)) rfl h (by omega)
      · have h := h.2 hc
        refine dd_Rn.cI 3 (pc := 105) (ls := [.ref 131, .int a1, .int a2]) (st := [.ref 1000015, .ref 131, .ref 131]) (x := m_X4_isWord) (as := [.ref 131, .ref 1000015]) (rest := [.ref 131]) rfl rfl rfl rfl h ?_
        intro x18 I18 L18 h
        show dd_Rn (e + 16) m_X3_readCondition (108, [.ref 131, .int a1, .int a2], [.int x18, .ref 131], sM Ln I18 L18 c s) _
        refine dd_Rn.ite 0 (c := x18 = 0) (A := (116, [.ref 131, .int a1, .int a2], [.ref 131], sM Ln I18 L18 c s)) (B := (111, [.ref 131, .int a1, .int a2], [.ref 131], sM Ln I18 L18 c s)) rfl (fun hc => ?_) (fun hc => ?_) (by omega)
        · have h := h.1 hc
          refine dd_Rn.cV 1 (pc := 118) (ls := [.ref 131, .int a1, .int a2]) (st := [.int (-6), .ref 131]) (x := m_X3_join) (as := [.ref 131, .int (-6)]) (rest := []) rfl rfl rfl rfl h ?_
          intro I19 L19 h
          show dd_Rn (e + 16) m_X3_readCondition (121, [.ref 131, .int a1, .int a2], [], sM Ln I19 L19 c s) _
          exact dd_Rn.go 5 (cf' := (19, [.ref 131, .int 0, .int (a2 + 1)], [], sM Ln I19 L19 c s)) rfl h (by omega)
        · have h := h.2 hc
          refine dd_Rn.cV 2 (pc := 118) (ls := [.ref 131, .int a1, .int a2]) (st := [.int (-5), .ref 131]) (x := m_X3_join) (as := [.ref 131, .int (-5)]) (rest := []) rfl rfl rfl rfl h ?_
          intro I20 L20 h
          show dd_Rn (e + 16) m_X3_readCondition (121, [.ref 131, .int a1, .int a2], [], sM Ln I20 L20 c s) _
          exact dd_Rn.go 5 (cf' := (19, [.ref 131, .int 0, .int (a2 + 1)], [], sM Ln I20 L20 c s)) rfl h (by omega)

theorem w_X3_open_0 {Ln d c s : Nat} {I : Nat → Nat → Int32} {L : Nat → Nat → Int64} {Q : dd_O → Prop} (hd : 28 ≤ d) (h : dd_Ev (d - 1) m_X4_isSign [.ref 131, .int 40] (sM Ln I L c s) (dd_RI Ln c s (fun x1 I1 L1 => ((x1 = 0 → dd_Ev (d - 1) m_X3_putUp [.ref 131, .int (-4)] (sM Ln I1 L1 c s) (dd_RV Ln c s (fun I2 L2 => ((x1 = 0 → dd_Ev (d - 1) m_X4_advance [.ref 131] (sM Ln (dd_u (dd_u I2 131 (upd (I2 131) 9 ((I2 131 9) + 1))) 131 (upd (upd (I2 131) 9 ((I2 131 9) + 1)) 10 ((I2 131 10) + 0))) L2 c s) (dd_RV Ln c s (fun I3 L3 => Q (none, .null, sM Ln I3 L3 c s)))) ∧ (¬ (x1 = 0) → dd_Ev (d - 1) m_X4_advance [.ref 131] (sM Ln (dd_u (dd_u I2 131 (upd (I2 131) 9 ((I2 131 9) + 1))) 131 (upd (upd (I2 131) 9 ((I2 131 9) + 1)) 10 ((I2 131 10) + 1))) L2 c s) (dd_RV Ln c s (fun I4 L4 => Q (none, .null, sM Ln I4 L4 c s)))))))) ∧ (¬ (x1 = 0) → dd_Ev (d - 1) m_X3_putUp [.ref 131, .int 0] (sM Ln I1 L1 c s) (dd_RV Ln c s (fun I5 L5 => ((x1 = 0 → dd_Ev (d - 1) m_X4_advance [.ref 131] (sM Ln (dd_u (dd_u I5 131 (upd (I5 131) 9 ((I5 131 9) + 1))) 131 (upd (upd (I5 131) 9 ((I5 131 9) + 1)) 10 ((I5 131 10) + 0))) L5 c s) (dd_RV Ln c s (fun I6 L6 => Q (none, .null, sM Ln I6 L6 c s)))) ∧ (¬ (x1 = 0) → dd_Ev (d - 1) m_X4_advance [.ref 131] (sM Ln (dd_u (dd_u I5 131 (upd (I5 131) 9 ((I5 131 9) + 1))) 131 (upd (upd (I5 131) 9 ((I5 131 9) + 1)) 10 ((I5 131 10) + 1))) L5 c s) (dd_RV Ln c s (fun I7 L7 => Q (none, .null, sM Ln I7 L7 c s)))))))))))) : dd_Ev d m_X3_open [.ref 131] (sM Ln I L c s) Q := by
  obtain ⟨e, rfl⟩ : ∃ e, d = e + 16 := ⟨d - 16, by omega⟩
  show dd_Rn (e + 16) m_X3_open (0, [.ref 131, .null], [], sM Ln I L c s) Q
  refine dd_Rn.cI 2 (pc := 3) (ls := [.ref 131, .null]) (st := [.int 40, .ref 131]) (x := m_X4_isSign) (as := [.ref 131, .int 40]) (rest := []) rfl rfl rfl rfl h ?_
  intro x1 I1 L1 h
  show dd_Rn (e + 16) m_X3_open (6, [.ref 131, .null], [.int x1], sM Ln I1 L1 c s) _
  refine dd_Rn.ite 3 (c := x1 = 0) (A := (16, [.ref 131, .int x1], [.ref 131], sM Ln I1 L1 c s)) (B := (12, [.ref 131, .int x1], [.ref 131], sM Ln I1 L1 c s)) rfl (fun hc => ?_) (fun hc => ?_) (by omega)
  · have h := h.1 hc
    refine dd_Rn.cV 1 (pc := 18) (ls := [.ref 131, .int x1]) (st := [.int (-4), .ref 131]) (x := m_X3_putUp) (as := [.ref 131, .int (-4)]) (rest := []) rfl rfl rfl rfl h ?_
    intro I2 L2 h
    show dd_Rn (e + 16) m_X3_open (21, [.ref 131, .int x1], [], sM Ln I2 L2 c s) _
    refine dd_Rn.ite 10 (c := x1 = 0) (A := (44, [.ref 131, .int x1], [.int (I2 131 10), .ref 131], sM Ln (dd_u I2 131 (upd (I2 131) 9 ((I2 131 9) + 1))) L2 c s)) (B := (40, [.ref 131, .int x1], [.int (I2 131 10), .ref 131], sM Ln (dd_u I2 131 (upd (I2 131) 9 ((I2 131 9) + 1))) L2 c s)) rfl (fun hc => ?_) (fun hc => ?_) (by omega)
    · have h := h.1 hc
      refine dd_Rn.cV 4 (pc := 50) (ls := [.ref 131, .int x1]) (st := [.ref 131]) (x := m_X4_advance) (as := [.ref 131]) (rest := []) rfl rfl rfl rfl h ?_
      intro I3 L3 h
      show dd_Rn (e + 16) m_X3_open (53, [.ref 131, .int x1], [], sM Ln I3 L3 c s) _
      exact dd_Rn.retK 0 (pc := 53) (ls := [.ref 131, .int x1]) (st := []) (M := sM Ln I3 L3 c s) (o := (none, .null, sM Ln I3 L3 c s)) rfl rfl h (by omega)
    · have h := h.2 hc
      refine dd_Rn.cV 5 (pc := 50) (ls := [.ref 131, .int x1]) (st := [.ref 131]) (x := m_X4_advance) (as := [.ref 131]) (rest := []) rfl rfl rfl rfl h ?_
      intro I4 L4 h
      show dd_Rn (e + 16) m_X3_open (53, [.ref 131, .int x1], [], sM Ln I4 L4 c s) _
      exact dd_Rn.retK 0 (pc := 53) (ls := [.ref 131, .int x1]) (st := []) (M := sM Ln I4 L4 c s) (o := (none, .null, sM Ln I4 L4 c s)) rfl rfl h (by omega)
  · have h := h.2 hc
    refine dd_Rn.cV 2 (pc := 18) (ls := [.ref 131, .int x1]) (st := [.int 0, .ref 131]) (x := m_X3_putUp) (as := [.ref 131, .int 0]) (rest := []) rfl rfl rfl rfl h ?_
    intro I5 L5 h
    show dd_Rn (e + 16) m_X3_open (21, [.ref 131, .int x1], [], sM Ln I5 L5 c s) _
    refine dd_Rn.ite 10 (c := x1 = 0) (A := (44, [.ref 131, .int x1], [.int (I5 131 10), .ref 131], sM Ln (dd_u I5 131 (upd (I5 131) 9 ((I5 131 9) + 1))) L5 c s)) (B := (40, [.ref 131, .int x1], [.int (I5 131 10), .ref 131], sM Ln (dd_u I5 131 (upd (I5 131) 9 ((I5 131 9) + 1))) L5 c s)) rfl (fun hc => ?_) (fun hc => ?_) (by omega)
    · have h := h.1 hc
      refine dd_Rn.cV 4 (pc := 50) (ls := [.ref 131, .int x1]) (st := [.ref 131]) (x := m_X4_advance) (as := [.ref 131]) (rest := []) rfl rfl rfl rfl h ?_
      intro I6 L6 h
      show dd_Rn (e + 16) m_X3_open (53, [.ref 131, .int x1], [], sM Ln I6 L6 c s) _
      exact dd_Rn.retK 0 (pc := 53) (ls := [.ref 131, .int x1]) (st := []) (M := sM Ln I6 L6 c s) (o := (none, .null, sM Ln I6 L6 c s)) rfl rfl h (by omega)
    · have h := h.2 hc
      refine dd_Rn.cV 5 (pc := 50) (ls := [.ref 131, .int x1]) (st := [.ref 131]) (x := m_X4_advance) (as := [.ref 131]) (rest := []) rfl rfl rfl rfl h ?_
      intro I7 L7 h
      show dd_Rn (e + 16) m_X3_open (53, [.ref 131, .int x1], [], sM Ln I7 L7 c s) _
      exact dd_Rn.retK 0 (pc := 53) (ls := [.ref 131, .int x1]) (st := []) (M := sM Ln I7 L7 c s) (o := (none, .null, sM Ln I7 L7 c s)) rfl rfl h (by omega)

theorem w_X3_putUp_0 {Ln d c s : Nat} {I : Nat → Nat → Int32} {L : Nat → Nat → Int64} {Q : dd_O → Prop} {a1 : Int32} (hd : 28 ≤ d) (h : (((21 : Int32) ≤ I 131 8 → Q (none, .null, sM Ln I L c s)) ∧ (¬ ((21 : Int32) ≤ I 131 8) → ((0 ≤ I 131 8 ∧ tn (I 131 8) < 21) ∧ Q (none, .null, sM Ln (dd_u (dd_u I 132 (upd (I 132) (tn (I 131 8)) a1)) 131 (upd (I 131) 8 ((I 131 8) + 1))) L c s))))) : dd_Ev d m_X3_putUp [.ref 131, .int a1] (sM Ln I L c s) Q := by
  obtain ⟨e, rfl⟩ : ∃ e, d = e + 16 := ⟨d - 16, by omega⟩
  show dd_Rn (e + 16) m_X3_putUp (0, [.ref 131, .int a1], [], sM Ln I L c s) Q
  refine dd_Rn.ite 5 (c := (21 : Int32) ≤ I 131 8) (A := (32, [.ref 131, .int a1], [], sM Ln I L c s)) (B := (12, [.ref 131, .int a1], [], sM Ln I L c s)) rfl (fun hc => ?_) (fun hc => ?_) (by omega)
  · have h := h.1 hc
    exact dd_Rn.retK 0 (pc := 32) (ls := [.ref 131, .int a1]) (st := []) (M := sM Ln I L c s) (o := (none, .null, sM Ln I L c s)) rfl rfl h (by omega)
  · have h := h.2 hc
    obtain ⟨hc, h⟩ := h
    refine dd_Rn.go 5 (cf' := (21, [.ref 131, .int a1], [.int a1, .int (I 131 8), .ref 132], sM Ln I L c s)) rfl ?_ (by omega)
    refine dd_Rn.ci (fun j0 => (21, [.ref 131, .int a1], [.int a1, .int j0, .ref 132], sM Ln I L c s)) (fun j0 => (22, [.ref 131, .int a1], [], sM Ln (dd_u I 132 (upd (I 132) (tn j0) a1)) L c s)) (fun j0 => 0 ≤ j0 ∧ tn j0 < 21) (I 131 8) (fun j0 hc h => dd_Rn.chk 0 (c := 0 ≤ j0 ∧ tn j0 < 21) (A := (22, [.ref 131, .int a1], [], sM Ln (dd_u I 132 (upd (I 132) (tn j0) a1)) L c s)) rfl hc h (by omega)) hc ?_
    refine dd_Rn.se (cf := (22, [.ref 131, .int a1], [], sM Ln (dd_u I 132 (upd (I 132) (tn (I 131 8)) a1)) L c s)) ?_
    exact dd_Rn.retK 6 (pc := 32) (ls := [.ref 131, .int a1]) (st := []) (M := sM Ln (dd_u (dd_u I 132 (upd (I 132) (tn (I 131 8)) a1)) 131 (upd (I 131) 8 ((I 131 8) + 1))) L c s) (o := (none, .null, sM Ln (dd_u (dd_u I 132 (upd (I 132) (tn (I 131 8)) a1)) 131 (upd (I 131) 8 ((I 131 8) + 1))) L c s)) rfl rfl h (by omega)

theorem w_X3_isTop_0 {Ln d c s : Nat} {I : Nat → Nat → Int32} {L : Nat → Nat → Int64} {Q : dd_O → Prop} {a1 : Int32} (hd : 28 ≤ d) (h : ((I 131 8 ≤ 0 → Q (none, .int 0, sM Ln I L c s)) ∧ (¬ (I 131 8 ≤ 0) → ((0 ≤ (I 131 8) - 1 ∧ tn ((I 131 8) - 1) < 21) ∧ ((I 132 (tn ((I 131 8) - 1)) = a1 → Q (none, .int 1, sM Ln I L c s)) ∧ (¬ (I 132 (tn ((I 131 8) - 1)) = a1) → Q (none, .int 0, sM Ln I L c s))))))) : dd_Ev d m_X3_isTop [.ref 131, .int a1] (sM Ln I L c s) Q := by
  obtain ⟨e, rfl⟩ : ∃ e, d = e + 16 := ⟨d - 16, by omega⟩
  show dd_Rn (e + 16) m_X3_isTop (0, [.ref 131, .int a1], [], sM Ln I L c s) Q
  refine dd_Rn.ite 2 (c := I 131 8 ≤ 0) (A := (26, [.ref 131, .int a1], [], sM Ln I L c s)) (B := (7, [.ref 131, .int a1], [], sM Ln I L c s)) rfl (fun hc => ?_) (fun hc => ?_) (by omega)
  · have h := h.1 hc
    exact dd_Rn.retK 1 (pc := 27) (ls := [.ref 131, .int a1]) (st := [.int 0]) (M := sM Ln I L c s) (o := (none, .int 0, sM Ln I L c s)) rfl rfl h (by omega)
  · have h := h.2 hc
    obtain ⟨hc, h⟩ := h
    refine dd_Rn.go 6 (cf' := (17, [.ref 131, .int a1], [.int ((I 131 8) - 1), .ref 132], sM Ln I L c s)) rfl ?_ (by omega)
    refine dd_Rn.ci (fun j0 => (17, [.ref 131, .int a1], [.int j0, .ref 132], sM Ln I L c s)) (fun j0 => (18, [.ref 131, .int a1], [.int (I 132 (tn j0))], sM Ln I L c s)) (fun j0 => 0 ≤ j0 ∧ tn j0 < 21) ((I 131 8) - 1) (fun j0 hc h => dd_Rn.chk 0 (c := 0 ≤ j0 ∧ tn j0 < 21) (A := (18, [.ref 131, .int a1], [.int (I 132 (tn j0))], sM Ln I L c s)) rfl hc h (by omega)) hc ?_
    refine dd_Rn.se (cf := (18, [.ref 131, .int a1], [.int (I 132 (tn ((I 131 8) - 1)))], sM Ln I L c s)) ?_
    refine dd_Rn.ite 1 (c := I 132 (tn ((I 131 8) - 1)) = a1) (A := (22, [.ref 131, .int a1], [], sM Ln I L c s)) (B := (26, [.ref 131, .int a1], [], sM Ln I L c s)) rfl (fun hc => ?_) (fun hc => ?_) (by omega)
    · have h := h.1 hc
      exact dd_Rn.retK 2 (pc := 27) (ls := [.ref 131, .int a1]) (st := [.int 1]) (M := sM Ln I L c s) (o := (none, .int 1, sM Ln I L c s)) rfl rfl h (by omega)
    · have h := h.2 hc
      exact dd_Rn.retK 1 (pc := 27) (ls := [.ref 131, .int a1]) (st := [.int 0]) (M := sM Ln I L c s) (o := (none, .int 0, sM Ln I L c s)) rfl rfl h (by omega)

theorem w_X3_join_0 {Ln d c s : Nat} {I : Nat → Nat → Int32} {L : Nat → Nat → Int64} {Q : dd_O → Prop} {a1 : Int32} (hd : 28 ≤ d) (h : dd_Ev (d - 1) m_X3_addJoins [.ref 131, .int a1] (sM Ln I L c s) (dd_RV Ln c s (fun I1 L1 => dd_Ev (d - 1) m_X3_putUp [.ref 131, .int a1] (sM Ln I1 L1 c s) (dd_RV Ln c s (fun I2 L2 => dd_Ev (d - 1) m_X4_advance [.ref 131] (sM Ln I2 L2 c s) (dd_RV Ln c s (fun I3 L3 => Q (none, .null, sM Ln I3 L3 c s)))))))) : dd_Ev d m_X3_join [.ref 131, .int a1] (sM Ln I L c s) Q := by
  obtain ⟨e, rfl⟩ : ∃ e, d = e + 16 := ⟨d - 16, by omega⟩
  show dd_Rn (e + 16) m_X3_join (0, [.ref 131, .int a1], [], sM Ln I L c s) Q
  refine dd_Rn.cV 2 (pc := 2) (ls := [.ref 131, .int a1]) (st := [.int a1, .ref 131]) (x := m_X3_addJoins) (as := [.ref 131, .int a1]) (rest := []) rfl rfl rfl rfl h ?_
  intro I1 L1 h
  show dd_Rn (e + 16) m_X3_join (5, [.ref 131, .int a1], [], sM Ln I1 L1 c s) _
  refine dd_Rn.cV 2 (pc := 7) (ls := [.ref 131, .int a1]) (st := [.int a1, .ref 131]) (x := m_X3_putUp) (as := [.ref 131, .int a1]) (rest := []) rfl rfl rfl rfl h ?_
  intro I2 L2 h
  show dd_Rn (e + 16) m_X3_join (10, [.ref 131, .int a1], [], sM Ln I2 L2 c s) _
  refine dd_Rn.cV 1 (pc := 11) (ls := [.ref 131, .int a1]) (st := [.ref 131]) (x := m_X4_advance) (as := [.ref 131]) (rest := []) rfl rfl rfl rfl h ?_
  intro I3 L3 h
  show dd_Rn (e + 16) m_X3_join (14, [.ref 131, .int a1], [], sM Ln I3 L3 c s) _
  exact dd_Rn.retK 0 (pc := 14) (ls := [.ref 131, .int a1]) (st := []) (M := sM Ln I3 L3 c s) (o := (none, .null, sM Ln I3 L3 c s)) rfl rfl h (by omega)

theorem w_X3_addJoins_0 {Ln d c s : Nat} {I : Nat → Nat → Int32} {L : Nat → Nat → Int64} {Q : dd_O → Prop} {a1 : Int32} (hd : 28 ≤ d) (h : dd_Rn d m_X3_addJoins (0, [.ref 131, .int a1], [], sM Ln I L c s) Q) : dd_Ev d m_X3_addJoins [.ref 131, .int a1] (sM Ln I L c s) Q := by
  obtain ⟨e, rfl⟩ : ∃ e, d = e + 16 := ⟨d - 16, by omega⟩
  show dd_Rn (e + 16) m_X3_addJoins (0, [.ref 131, .int a1], [], sM Ln I L c s) Q
  exact dd_Rn.go 0 (cf' := (0, [.ref 131, .int a1], [], sM Ln I L c s)) rfl h (by omega)

theorem w_X3_addNots_0 {Ln d c s : Nat} {I : Nat → Nat → Int32} {L : Nat → Nat → Int64} {Q : dd_O → Prop} (hd : 28 ≤ d) (h : dd_Rn d m_X3_addNots (0, [.ref 131], [], sM Ln I L c s) Q) : dd_Ev d m_X3_addNots [.ref 131] (sM Ln I L c s) Q := by
  obtain ⟨e, rfl⟩ : ∃ e, d = e + 16 := ⟨d - 16, by omega⟩
  show dd_Rn (e + 16) m_X3_addNots (0, [.ref 131], [], sM Ln I L c s) Q
  exact dd_Rn.go 0 (cf' := (0, [.ref 131], [], sM Ln I L c s)) rfl h (by omega)

theorem w_X3_close_0 {Ln d c s : Nat} {I : Nat → Nat → Int32} {L : Nat → Nat → Int64} {Q : dd_O → Prop} (hd : 28 ≤ d) (h : dd_Ev (d - 1) m_X3_addJoins [.ref 131, .int (-6)] (sM Ln I L c s) (dd_RV Ln c s (fun I1 L1 => dd_Ev (d - 1) m_X3_isTop [.ref 131, .int 0] (sM Ln I1 L1 c s) (dd_RI Ln c s (fun x2 I2 L2 => ((x2 = 0 → dd_Ev (d - 1) m_X3_addNots [.ref 131] (sM Ln I2 L2 c s) (dd_RV Ln c s (fun I3 L3 => dd_Ev (d - 1) m_X4_advance [.ref 131] (sM Ln I3 L3 c s) (dd_RV Ln c s (fun I4 L4 => Q (none, .null, sM Ln I4 L4 c s)))))) ∧ (¬ (x2 = 0) → dd_Ev (d - 1) m_X3_addNots [.ref 131] (sM Ln (dd_u (dd_u (dd_u I2 131 (upd (I2 131) 8 ((I2 131 8) - 1))) 131 (upd (upd (I2 131) 8 ((I2 131 8) - 1)) 9 ((I2 131 9) - 1))) 131 (upd (upd (upd (I2 131) 8 ((I2 131 8) - 1)) 9 ((I2 131 9) - 1)) 10 ((I2 131 10) - 1))) L2 c s) (dd_RV Ln c s (fun I5 L5 => dd_Ev (d - 1) m_X4_advance [.ref 131] (sM Ln I5 L5 c s) (dd_RV Ln c s (fun I6 L6 => Q (none, .null, sM Ln I6 L6 c s)))))))))))) : dd_Ev d m_X3_close [.ref 131] (sM Ln I L c s) Q := by
  obtain ⟨e, rfl⟩ : ∃ e, d = e + 16 := ⟨d - 16, by omega⟩
  show dd_Rn (e + 16) m_X3_close (0, [.ref 131], [], sM Ln I L c s) Q
  refine dd_Rn.cV 2 (pc := 3) (ls := [.ref 131]) (st := [.int (-6), .ref 131]) (x := m_X3_addJoins) (as := [.ref 131, .int (-6)]) (rest := []) rfl rfl rfl rfl h ?_
  intro I1 L1 h
  show dd_Rn (e + 16) m_X3_close (6, [.ref 131], [], sM Ln I1 L1 c s) _
  refine dd_Rn.cI 2 (pc := 8) (ls := [.ref 131]) (st := [.int 0, .ref 131]) (x := m_X3_isTop) (as := [.ref 131, .int 0]) (rest := []) rfl rfl rfl rfl h ?_
  intro x2 I2 L2 h
  show dd_Rn (e + 16) m_X3_close (11, [.ref 131], [.int x2], sM Ln I2 L2 c s) _
  refine dd_Rn.ite 0 (c := x2 = 0) (A := (44, [.ref 131], [], sM Ln I2 L2 c s)) (B := (14, [.ref 131], [], sM Ln I2 L2 c s)) rfl (fun hc => ?_) (fun hc => ?_) (by omega)
  · have h := h.1 hc
    refine dd_Rn.cV 1 (pc := 45) (ls := [.ref 131]) (st := [.ref 131]) (x := m_X3_addNots) (as := [.ref 131]) (rest := []) rfl rfl rfl rfl h ?_
    intro I3 L3 h
    show dd_Rn (e + 16) m_X3_close (48, [.ref 131], [], sM Ln I3 L3 c s) _
    refine dd_Rn.cV 1 (pc := 49) (ls := [.ref 131]) (st := [.ref 131]) (x := m_X4_advance) (as := [.ref 131]) (rest := []) rfl rfl rfl rfl h ?_
    intro I4 L4 h
    show dd_Rn (e + 16) m_X3_close (52, [.ref 131], [], sM Ln I4 L4 c s) _
    exact dd_Rn.retK 0 (pc := 52) (ls := [.ref 131]) (st := []) (M := sM Ln I4 L4 c s) (o := (none, .null, sM Ln I4 L4 c s)) rfl rfl h (by omega)
  · have h := h.2 hc
    refine dd_Rn.cV 19 (pc := 45) (ls := [.ref 131]) (st := [.ref 131]) (x := m_X3_addNots) (as := [.ref 131]) (rest := []) rfl rfl rfl rfl h ?_
    intro I5 L5 h
    show dd_Rn (e + 16) m_X3_close (48, [.ref 131], [], sM Ln I5 L5 c s) _
    refine dd_Rn.cV 1 (pc := 49) (ls := [.ref 131]) (st := [.ref 131]) (x := m_X4_advance) (as := [.ref 131]) (rest := []) rfl rfl rfl rfl h ?_
    intro I6 L6 h
    show dd_Rn (e + 16) m_X3_close (52, [.ref 131], [], sM Ln I6 L6 c s) _
    exact dd_Rn.retK 0 (pc := 52) (ls := [.ref 131]) (st := []) (M := sM Ln I6 L6 c s) (o := (none, .null, sM Ln I6 L6 c s)) rfl rfl h (by omega)

theorem w_X3_readAtom_0 {Ln d c s : Nat} {I : Nat → Nat → Int32} {L : Nat → Nat → Int64} {Q : dd_O → Prop} (hd : 28 ≤ d) (h : dd_Ev (d - 1) m_X4_isWord [.ref 131, .ref 1000005] (sM Ln I L c s) (dd_RI Ln c s (fun x1 I1 L1 => ((x1 = 0 → dd_Ev (d - 1) m_X4_isWord [.ref 131, .ref 1000006] (sM Ln I1 L1 c s) (dd_RI Ln c s (fun x2 I2 L2 => ((x2 = 0 → dd_Ev (d - 1) m_X3_readSum [.ref 131] (sM Ln I2 L2 c s) (dd_RI Ln c s (fun x3 I3 L3 => ((x3 = 0 → Q (none, .int 0, sM Ln I3 L3 c s)) ∧ (¬ (x3 = 0) → dd_Ev (d - 1) m_X4_isSign [.ref 131, .int 60] (sM Ln I3 L3 c s) (dd_RI Ln c s (fun x4 I4 L4 => ((x4 = 0 → dd_Ev (d - 1) m_X4_isSign [.ref 131, .int 62] (sM Ln I4 L4 c s) (dd_RI Ln c s (fun x5 I5 L5 => ((x5 = 0 → dd_Ev (d - 1) m_X4_refuse [.ref 131] (sM Ln I5 L5 c s) (dd_RI Ln c s (fun x6 I6 L6 => ((x6 = 0 ∨ x6 = 1) ∧ Q (none, .int x6, sM Ln I6 L6 c s))))) ∧ (¬ (x5 = 0) → dd_Ev (d - 1) m_X4_isSign [.ref 131, .int 60] (sM Ln I5 L5 c s) (dd_RI Ln c s (fun x7 I7 L7 => ((x7 = 0 → dd_Ev (d - 1) m_X2_add [.ref 27, .int (-7)] (sM Ln I7 L7 c s) (dd_RV Ln c s (fun I8 L8 => dd_Ev (d - 1) m_X4_advance [.ref 131] (sM Ln I8 L8 c s) (dd_RV Ln c s (fun I9 L9 => dd_Ev (d - 1) m_X3_readSum [.ref 131] (sM Ln I9 L9 c s) (dd_RI Ln c s (fun x10 I10 L10 => ((x10 = 0 → Q (none, .int 0, sM Ln I10 L10 c s)) ∧ (¬ (x10 = 0) → dd_Ev (d - 1) m_X2_add [.ref 27, .int (-9)] (sM Ln I10 L10 c s) (dd_RV Ln c s (fun I11 L11 => dd_Ev (d - 1) m_X3_addNots [.ref 131] (sM Ln I11 L11 c s) (dd_RV Ln c s (fun I12 L12 => Q (none, .int 1, sM Ln I12 L12 c s)))))))))))))) ∧ (¬ (x7 = 0) → dd_Ev (d - 1) m_X2_add [.ref 27, .int (-7)] (sM Ln I7 L7 c s) (dd_RV Ln c s (fun I13 L13 => dd_Ev (d - 1) m_X4_advance [.ref 131] (sM Ln I13 L13 c s) (dd_RV Ln c s (fun I14 L14 => dd_Ev (d - 1) m_X3_readSum [.ref 131] (sM Ln I14 L14 c s) (dd_RI Ln c s (fun x15 I15 L15 => ((x15 = 0 → Q (none, .int 0, sM Ln I15 L15 c s)) ∧ (¬ (x15 = 0) → dd_Ev (d - 1) m_X2_add [.ref 27, .int (-8)] (sM Ln I15 L15 c s) (dd_RV Ln c s (fun I16 L16 => dd_Ev (d - 1) m_X3_addNots [.ref 131] (sM Ln I16 L16 c s) (dd_RV Ln c s (fun I17 L17 => Q (none, .int 1, sM Ln I17 L17 c s)))))))))))))))))))))) ∧ (¬ (x4 = 0) → dd_Ev (d - 1) m_X4_isSign [.ref 131, .int 60] (sM Ln I4 L4 c s) (dd_RI Ln c s (fun x18 I18 L18 => ((x18 = 0 → dd_Ev (d - 1) m_X2_add [.ref 27, .int (-7)] (sM Ln I18 L18 c s) (dd_RV Ln c s (fun I19 L19 => dd_Ev (d - 1) m_X4_advance [.ref 131] (sM Ln I19 L19 c s) (dd_RV Ln c s (fun I20 L20 => dd_Ev (d - 1) m_X3_readSum [.ref 131] (sM Ln I20 L20 c s) (dd_RI Ln c s (fun x21 I21 L21 => ((x21 = 0 → Q (none, .int 0, sM Ln I21 L21 c s)) ∧ (¬ (x21 = 0) → dd_Ev (d - 1) m_X2_add [.ref 27, .int (-9)] (sM Ln I21 L21 c s) (dd_RV Ln c s (fun I22 L22 => dd_Ev (d - 1) m_X3_addNots [.ref 131] (sM Ln I22 L22 c s) (dd_RV Ln c s (fun I23 L23 => Q (none, .int 1, sM Ln I23 L23 c s)))))))))))))) ∧ (¬ (x18 = 0) → dd_Ev (d - 1) m_X2_add [.ref 27, .int (-7)] (sM Ln I18 L18 c s) (dd_RV Ln c s (fun I24 L24 => dd_Ev (d - 1) m_X4_advance [.ref 131] (sM Ln I24 L24 c s) (dd_RV Ln c s (fun I25 L25 => dd_Ev (d - 1) m_X3_readSum [.ref 131] (sM Ln I25 L25 c s) (dd_RI Ln c s (fun x26 I26 L26 => ((x26 = 0 → Q (none, .int 0, sM Ln I26 L26 c s)) ∧ (¬ (x26 = 0) → dd_Ev (d - 1) m_X2_add [.ref 27, .int (-8)] (sM Ln I26 L26 c s) (dd_RV Ln c s (fun I27 L27 => dd_Ev (d - 1) m_X3_addNots [.ref 131] (sM Ln I27 L27 c s) (dd_RV Ln c s (fun I28 L28 => Q (none, .int 1, sM Ln I28 L28 c s)))))))))))))))))))))))))) ∧ (¬ (x2 = 0) → dd_Ev (d - 1) m_X4_isWord [.ref 131, .ref 1000005] (sM Ln I2 L2 c s) (dd_RI Ln c s (fun x29 I29 L29 => ((x29 = 0 → dd_Ev (d - 1) m_X2_add [.ref 27, .int (-3)] (sM Ln I29 L29 c s) (dd_RV Ln c s (fun I30 L30 => dd_Ev (d - 1) m_X4_advance [.ref 131] (sM Ln I30 L30 c s) (dd_RV Ln c s (fun I31 L31 => dd_Ev (d - 1) m_X3_addNots [.ref 131] (sM Ln I31 L31 c s) (dd_RV Ln c s (fun I32 L32 => Q (none, .int 1, sM Ln I32 L32 c s)))))))) ∧ (¬ (x29 = 0) → dd_Ev (d - 1) m_X2_add [.ref 27, .int (-2)] (sM Ln I29 L29 c s) (dd_RV Ln c s (fun I33 L33 => dd_Ev (d - 1) m_X4_advance [.ref 131] (sM Ln I33 L33 c s) (dd_RV Ln c s (fun I34 L34 => dd_Ev (d - 1) m_X3_addNots [.ref 131] (sM Ln I34 L34 c s) (dd_RV Ln c s (fun I35 L35 => Q (none, .int 1, sM Ln I35 L35 c s)))))))))))))))) ∧ (¬ (x1 = 0) → dd_Ev (d - 1) m_X4_isWord [.ref 131, .ref 1000005] (sM Ln I1 L1 c s) (dd_RI Ln c s (fun x36 I36 L36 => ((x36 = 0 → dd_Ev (d - 1) m_X2_add [.ref 27, .int (-3)] (sM Ln I36 L36 c s) (dd_RV Ln c s (fun I37 L37 => dd_Ev (d - 1) m_X4_advance [.ref 131] (sM Ln I37 L37 c s) (dd_RV Ln c s (fun I38 L38 => dd_Ev (d - 1) m_X3_addNots [.ref 131] (sM Ln I38 L38 c s) (dd_RV Ln c s (fun I39 L39 => Q (none, .int 1, sM Ln I39 L39 c s)))))))) ∧ (¬ (x36 = 0) → dd_Ev (d - 1) m_X2_add [.ref 27, .int (-2)] (sM Ln I36 L36 c s) (dd_RV Ln c s (fun I40 L40 => dd_Ev (d - 1) m_X4_advance [.ref 131] (sM Ln I40 L40 c s) (dd_RV Ln c s (fun I41 L41 => dd_Ev (d - 1) m_X3_addNots [.ref 131] (sM Ln I41 L41 c s) (dd_RV Ln c s (fun I42 L42 => Q (none, .int 1, sM Ln I42 L42 c s)))))))))))))))) : dd_Ev d m_X3_readAtom [.ref 131] (sM Ln I L c s) Q := by
  obtain ⟨e, rfl⟩ : ∃ e, d = e + 16 := ⟨d - 16, by omega⟩
  show dd_Rn (e + 16) m_X3_readAtom (0, [.ref 131, .null], [], sM Ln I L c s) Q
  refine dd_Rn.cI 2 (pc := 3) (ls := [.ref 131, .null]) (st := [.ref 1000005, .ref 131]) (x := m_X4_isWord) (as := [.ref 131, .ref 1000005]) (rest := []) rfl rfl rfl rfl h ?_
  intro x1 I1 L1 h
  show dd_Rn (e + 16) m_X3_readAtom (6, [.ref 131, .null], [.int x1], sM Ln I1 L1 c s) _
  refine dd_Rn.ite 0 (c := x1 = 0) (A := (9, [.ref 131, .null], [], sM Ln I1 L1 c s)) (B := (18, [.ref 131, .null], [], sM Ln I1 L1 c s)) rfl (fun hc => ?_) (fun hc => ?_) (by omega)
  · have h := h.1 hc
    refine dd_Rn.cI 2 (pc := 12) (ls := [.ref 131, .null]) (st := [.ref 1000006, .ref 131]) (x := m_X4_isWord) (as := [.ref 131, .ref 1000006]) (rest := []) rfl rfl rfl rfl h ?_
    intro x2 I2 L2 h
    show dd_Rn (e + 16) m_X3_readAtom (15, [.ref 131, .null], [.int x2], sM Ln I2 L2 c s) _
    refine dd_Rn.ite 0 (c := x2 = 0) (A := (48, [.ref 131, .null], [], sM Ln I2 L2 c s)) (B := (18, [.ref 131, .null], [], sM Ln I2 L2 c s)) rfl (fun hc => ?_) (fun hc => ?_) (by omega)
    · have h := h.1 hc
      refine dd_Rn.cI 1 (pc := 49) (ls := [.ref 131, .null]) (st := [.ref 131]) (x := m_X3_readSum) (as := [.ref 131]) (rest := []) rfl rfl rfl rfl h ?_
      intro x3 I3 L3 h
      show dd_Rn (e + 16) m_X3_readAtom (52, [.ref 131, .null], [.int x3], sM Ln I3 L3 c s) _
      refine dd_Rn.ite 0 (c := x3 = 0) (A := (55, [.ref 131, .null], [], sM Ln I3 L3 c s)) (B := (57, [.ref 131, .null], [], sM Ln I3 L3 c s)) rfl (fun hc => ?_) (fun hc => ?_) (by omega)
      · have h := h.1 hc
        exact dd_Rn.retK 1 (pc := 56) (ls := [.ref 131, .null]) (st := [.int 0]) (M := sM Ln I3 L3 c s) (o := (none, .int 0, sM Ln I3 L3 c s)) rfl rfl h (by omega)
      · have h := h.2 hc
        refine dd_Rn.cI 2 (pc := 60) (ls := [.ref 131, .null]) (st := [.int 60, .ref 131]) (x := m_X4_isSign) (as := [.ref 131, .int 60]) (rest := []) rfl rfl rfl rfl h ?_
        intro x4 I4 L4 h
        show dd_Rn (e + 16) m_X3_readAtom (63, [.ref 131, .null], [.int x4], sM Ln I4 L4 c s) _
        refine dd_Rn.ite 0 (c := x4 = 0) (A := (66, [.ref 131, .null], [], sM Ln I4 L4 c s)) (B := (80, [.ref 131, .null], [], sM Ln I4 L4 c s)) rfl (fun hc => ?_) (fun hc => ?_) (by omega)
        · have h := h.1 hc
          refine dd_Rn.cI 2 (pc := 69) (ls := [.ref 131, .null]) (st := [.int 62, .ref 131]) (x := m_X4_isSign) (as := [.ref 131, .int 62]) (rest := []) rfl rfl rfl rfl h ?_
          intro x5 I5 L5 h
          show dd_Rn (e + 16) m_X3_readAtom (72, [.ref 131, .null], [.int x5], sM Ln I5 L5 c s) _
          refine dd_Rn.ite 0 (c := x5 = 0) (A := (75, [.ref 131, .null], [], sM Ln I5 L5 c s)) (B := (80, [.ref 131, .null], [], sM Ln I5 L5 c s)) rfl (fun hc => ?_) (fun hc => ?_) (by omega)
          · have h := h.1 hc
            refine dd_Rn.cI 1 (pc := 76) (ls := [.ref 131, .null]) (st := [.ref 131]) (x := m_X4_refuse) (as := [.ref 131]) (rest := []) rfl rfl rfl rfl h ?_
            intro x6 I6 L6 h
            show dd_Rn (e + 16) m_X3_readAtom (79, [.ref 131, .null], [.int x6], sM Ln I6 L6 c s) _
            obtain ⟨hc, h⟩ := h
            exact dd_Rn.retB 0 (cf' := (79, [.ref 131, .null], [.int x6], sM Ln I6 L6 c s)) (v := x6) rfl rfl hc h (by omega)
          · have h := h.2 hc
            refine dd_Rn.cI 2 (pc := 83) (ls := [.ref 131, .null]) (st := [.int 60, .ref 131]) (x := m_X4_isSign) (as := [.ref 131, .int 60]) (rest := []) rfl rfl rfl rfl h ?_
            intro x7 I7 L7 h
            show dd_Rn (e + 16) m_X3_readAtom (86, [.ref 131, .null], [.int x7], sM Ln I7 L7 c s) _
            refine dd_Rn.ite 0 (c := x7 = 0) (A := (94, [.ref 131, .null], [], sM Ln I7 L7 c s)) (B := (89, [.ref 131, .null], [], sM Ln I7 L7 c s)) rfl (fun hc => ?_) (fun hc => ?_) (by omega)
            · have h := h.1 hc
              refine dd_Rn.cV 5 (pc := 103) (ls := [.ref 131, .int (-9)]) (st := [.int (-7), .ref 27]) (x := m_X2_add) (as := [.ref 27, .int (-7)]) (rest := []) rfl rfl rfl rfl h ?_
              intro I8 L8 h
              show dd_Rn (e + 16) m_X3_readAtom (106, [.ref 131, .int (-9)], [], sM Ln I8 L8 c s) _
              refine dd_Rn.cV 1 (pc := 107) (ls := [.ref 131, .int (-9)]) (st := [.ref 131]) (x := m_X4_advance) (as := [.ref 131]) (rest := []) rfl rfl rfl rfl h ?_
              intro I9 L9 h
              show dd_Rn (e + 16) m_X3_readAtom (110, [.ref 131, .int (-9)], [], sM Ln I9 L9 c s) _
              refine dd_Rn.cI 1 (pc := 111) (ls := [.ref 131, .int (-9)]) (st := [.ref 131]) (x := m_X3_readSum) (as := [.ref 131]) (rest := []) rfl rfl rfl rfl h ?_
              intro x10 I10 L10 h
              show dd_Rn (e + 16) m_X3_readAtom (114, [.ref 131, .int (-9)], [.int x10], sM Ln I10 L10 c s) _
              refine dd_Rn.ite 0 (c := x10 = 0) (A := (117, [.ref 131, .int (-9)], [], sM Ln I10 L10 c s)) (B := (119, [.ref 131, .int (-9)], [], sM Ln I10 L10 c s)) rfl (fun hc => ?_) (fun hc => ?_) (by omega)
              · have h := h.1 hc
                exact dd_Rn.retK 1 (pc := 118) (ls := [.ref 131, .int (-9)]) (st := [.int 0]) (M := sM Ln I10 L10 c s) (o := (none, .int 0, sM Ln I10 L10 c s)) rfl rfl h (by omega)
              · have h := h.2 hc
                refine dd_Rn.cV 3 (pc := 124) (ls := [.ref 131, .int (-9)]) (st := [.int (-9), .ref 27]) (x := m_X2_add) (as := [.ref 27, .int (-9)]) (rest := []) rfl rfl rfl rfl h ?_
                intro I11 L11 h
                show dd_Rn (e + 16) m_X3_readAtom (127, [.ref 131, .int (-9)], [], sM Ln I11 L11 c s) _
                refine dd_Rn.cV 1 (pc := 128) (ls := [.ref 131, .int (-9)]) (st := [.ref 131]) (x := m_X3_addNots) (as := [.ref 131]) (rest := []) rfl rfl rfl rfl h ?_
                intro I12 L12 h
                show dd_Rn (e + 16) m_X3_readAtom (131, [.ref 131, .int (-9)], [], sM Ln I12 L12 c s) _
                exact dd_Rn.retK 1 (pc := 132) (ls := [.ref 131, .int (-9)]) (st := [.int 1]) (M := sM Ln I12 L12 c s) (o := (none, .int 1, sM Ln I12 L12 c s)) rfl rfl h (by omega)
            · have h := h.2 hc
              refine dd_Rn.cV 6 (pc := 103) (ls := [.ref 131, .int (-8)]) (st := [.int (-7), .ref 27]) (x := m_X2_add) (as := [.ref 27, .int (-7)]) (rest := []) rfl rfl rfl rfl h ?_
              intro I13 L13 h
              show dd_Rn (e + 16) m_X3_readAtom (106, [.ref 131, .int (-8)], [], sM Ln I13 L13 c s) _
              refine dd_Rn.cV 1 (pc := 107) (ls := [.ref 131, .int (-8)]) (st := [.ref 131]) (x := m_X4_advance) (as := [.ref 131]) (rest := []) rfl rfl rfl rfl h ?_
              intro I14 L14 h
              show dd_Rn (e + 16) m_X3_readAtom (110, [.ref 131, .int (-8)], [], sM Ln I14 L14 c s) _
              refine dd_Rn.cI 1 (pc := 111) (ls := [.ref 131, .int (-8)]) (st := [.ref 131]) (x := m_X3_readSum) (as := [.ref 131]) (rest := []) rfl rfl rfl rfl h ?_
              intro x15 I15 L15 h
              show dd_Rn (e + 16) m_X3_readAtom (114, [.ref 131, .int (-8)], [.int x15], sM Ln I15 L15 c s) _
              refine dd_Rn.ite 0 (c := x15 = 0) (A := (117, [.ref 131, .int (-8)], [], sM Ln I15 L15 c s)) (B := (119, [.ref 131, .int (-8)], [], sM Ln I15 L15 c s)) rfl (fun hc => ?_) (fun hc => ?_) (by omega)
              · have h := h.1 hc
                exact dd_Rn.retK 1 (pc := 118) (ls := [.ref 131, .int (-8)]) (st := [.int 0]) (M := sM Ln I15 L15 c s) (o := (none, .int 0, sM Ln I15 L15 c s)) rfl rfl h (by omega)
              · have h := h.2 hc
                refine dd_Rn.cV 3 (pc := 124) (ls := [.ref 131, .int (-8)]) (st := [.int (-8), .ref 27]) (x := m_X2_add) (as := [.ref 27, .int (-8)]) (rest := []) rfl rfl rfl rfl h ?_
                intro I16 L16 h
                show dd_Rn (e + 16) m_X3_readAtom (127, [.ref 131, .int (-8)], [], sM Ln I16 L16 c s) _
                refine dd_Rn.cV 1 (pc := 128) (ls := [.ref 131, .int (-8)]) (st := [.ref 131]) (x := m_X3_addNots) (as := [.ref 131]) (rest := []) rfl rfl rfl rfl h ?_
                intro I17 L17 h
                show dd_Rn (e + 16) m_X3_readAtom (131, [.ref 131, .int (-8)], [], sM Ln I17 L17 c s) _
                exact dd_Rn.retK 1 (pc := 132) (ls := [.ref 131, .int (-8)]) (st := [.int 1]) (M := sM Ln I17 L17 c s) (o := (none, .int 1, sM Ln I17 L17 c s)) rfl rfl h (by omega)
        · have h := h.2 hc
          refine dd_Rn.cI 2 (pc := 83) (ls := [.ref 131, .null]) (st := [.int 60, .ref 131]) (x := m_X4_isSign) (as := [.ref 131, .int 60]) (rest := []) rfl rfl rfl rfl h ?_
          intro x18 I18 L18 h
          show dd_Rn (e + 16) m_X3_readAtom (86, [.ref 131, .null], [.int x18], sM Ln I18 L18 c s) _
          refine dd_Rn.ite 0 (c := x18 = 0) (A := (94, [.ref 131, .null], [], sM Ln I18 L18 c s)) (B := (89, [.ref 131, .null], [], sM Ln I18 L18 c s)) rfl (fun hc => ?_) (fun hc => ?_) (by omega)
          · have h := h.1 hc
            refine dd_Rn.cV 5 (pc := 103) (ls := [.ref 131, .int (-9)]) (st := [.int (-7), .ref 27]) (x := m_X2_add) (as := [.ref 27, .int (-7)]) (rest := []) rfl rfl rfl rfl h ?_
            intro I19 L19 h
            show dd_Rn (e + 16) m_X3_readAtom (106, [.ref 131, .int (-9)], [], sM Ln I19 L19 c s) _
            refine dd_Rn.cV 1 (pc := 107) (ls := [.ref 131, .int (-9)]) (st := [.ref 131]) (x := m_X4_advance) (as := [.ref 131]) (rest := []) rfl rfl rfl rfl h ?_
            intro I20 L20 h
            show dd_Rn (e + 16) m_X3_readAtom (110, [.ref 131, .int (-9)], [], sM Ln I20 L20 c s) _
            refine dd_Rn.cI 1 (pc := 111) (ls := [.ref 131, .int (-9)]) (st := [.ref 131]) (x := m_X3_readSum) (as := [.ref 131]) (rest := []) rfl rfl rfl rfl h ?_
            intro x21 I21 L21 h
            show dd_Rn (e + 16) m_X3_readAtom (114, [.ref 131, .int (-9)], [.int x21], sM Ln I21 L21 c s) _
            refine dd_Rn.ite 0 (c := x21 = 0) (A := (117, [.ref 131, .int (-9)], [], sM Ln I21 L21 c s)) (B := (119, [.ref 131, .int (-9)], [], sM Ln I21 L21 c s)) rfl (fun hc => ?_) (fun hc => ?_) (by omega)
            · have h := h.1 hc
              exact dd_Rn.retK 1 (pc := 118) (ls := [.ref 131, .int (-9)]) (st := [.int 0]) (M := sM Ln I21 L21 c s) (o := (none, .int 0, sM Ln I21 L21 c s)) rfl rfl h (by omega)
            · have h := h.2 hc
              refine dd_Rn.cV 3 (pc := 124) (ls := [.ref 131, .int (-9)]) (st := [.int (-9), .ref 27]) (x := m_X2_add) (as := [.ref 27, .int (-9)]) (rest := []) rfl rfl rfl rfl h ?_
              intro I22 L22 h
              show dd_Rn (e + 16) m_X3_readAtom (127, [.ref 131, .int (-9)], [], sM Ln I22 L22 c s) _
              refine dd_Rn.cV 1 (pc := 128) (ls := [.ref 131, .int (-9)]) (st := [.ref 131]) (x := m_X3_addNots) (as := [.ref 131]) (rest := []) rfl rfl rfl rfl h ?_
              intro I23 L23 h
              show dd_Rn (e + 16) m_X3_readAtom (131, [.ref 131, .int (-9)], [], sM Ln I23 L23 c s) _
              exact dd_Rn.retK 1 (pc := 132) (ls := [.ref 131, .int (-9)]) (st := [.int 1]) (M := sM Ln I23 L23 c s) (o := (none, .int 1, sM Ln I23 L23 c s)) rfl rfl h (by omega)
          · have h := h.2 hc
            refine dd_Rn.cV 6 (pc := 103) (ls := [.ref 131, .int (-8)]) (st := [.int (-7), .ref 27]) (x := m_X2_add) (as := [.ref 27, .int (-7)]) (rest := []) rfl rfl rfl rfl h ?_
            intro I24 L24 h
            show dd_Rn (e + 16) m_X3_readAtom (106, [.ref 131, .int (-8)], [], sM Ln I24 L24 c s) _
            refine dd_Rn.cV 1 (pc := 107) (ls := [.ref 131, .int (-8)]) (st := [.ref 131]) (x := m_X4_advance) (as := [.ref 131]) (rest := []) rfl rfl rfl rfl h ?_
            intro I25 L25 h
            show dd_Rn (e + 16) m_X3_readAtom (110, [.ref 131, .int (-8)], [], sM Ln I25 L25 c s) _
            refine dd_Rn.cI 1 (pc := 111) (ls := [.ref 131, .int (-8)]) (st := [.ref 131]) (x := m_X3_readSum) (as := [.ref 131]) (rest := []) rfl rfl rfl rfl h ?_
            intro x26 I26 L26 h
            show dd_Rn (e + 16) m_X3_readAtom (114, [.ref 131, .int (-8)], [.int x26], sM Ln I26 L26 c s) _
            refine dd_Rn.ite 0 (c := x26 = 0) (A := (117, [.ref 131, .int (-8)], [], sM Ln I26 L26 c s)) (B := (119, [.ref 131, .int (-8)], [], sM Ln I26 L26 c s)) rfl (fun hc => ?_) (fun hc => ?_) (by omega)
            · have h := h.1 hc
              exact dd_Rn.retK 1 (pc := 118) (ls := [.ref 131, .int (-8)]) (st := [.int 0]) (M := sM Ln I26 L26 c s) (o := (none, .int 0, sM Ln I26 L26 c s)) rfl rfl h (by omega)
            · have h := h.2 hc
              refine dd_Rn.cV 3 (pc := 124) (ls := [.ref 131, .int (-8)]) (st := [.int (-8), .ref 27]) (x := m_X2_add) (as := [.ref 27, .int (-8)]) (rest := []) rfl rfl rfl rfl h ?_
              intro I27 L27 h
              show dd_Rn (e + 16) m_X3_readAtom (127, [.ref 131, .int (-8)], [], sM Ln I27 L27 c s) _
              refine dd_Rn.cV 1 (pc := 128) (ls := [.ref 131, .int (-8)]) (st := [.ref 131]) (x := m_X3_addNots) (as := [.ref 131]) (rest := []) rfl rfl rfl rfl h ?_
              intro I28 L28 h
              show dd_Rn (e + 16) m_X3_readAtom (131, [.ref 131, .int (-8)], [], sM Ln I28 L28 c s) _
              exact dd_Rn.retK 1 (pc := 132) (ls := [.ref 131, .int (-8)]) (st := [.int 1]) (M := sM Ln I28 L28 c s) (o := (none, .int 1, sM Ln I28 L28 c s)) rfl rfl h (by omega)
    · have h := h.2 hc
      refine dd_Rn.cI 4 (pc := 25) (ls := [.ref 131, .null]) (st := [.ref 1000005, .ref 131, .ref 27]) (x := m_X4_isWord) (as := [.ref 131, .ref 1000005]) (rest := [.ref 27]) rfl rfl rfl rfl h ?_
      intro x29 I29 L29 h
      show dd_Rn (e + 16) m_X3_readAtom (28, [.ref 131, .null], [.int x29, .ref 27], sM Ln I29 L29 c s) _
      refine dd_Rn.ite 0 (c := x29 = 0) (A := (36, [.ref 131, .null], [.ref 27], sM Ln I29 L29 c s)) (B := (31, [.ref 131, .null], [.ref 27], sM Ln I29 L29 c s)) rfl (fun hc => ?_) (fun hc => ?_) (by omega)
      · have h := h.1 hc
        refine dd_Rn.cV 1 (pc := 38) (ls := [.ref 131, .null]) (st := [.int (-3), .ref 27]) (x := m_X2_add) (as := [.ref 27, .int (-3)]) (rest := []) rfl rfl rfl rfl h ?_
        intro I30 L30 h
        show dd_Rn (e + 16) m_X3_readAtom (41, [.ref 131, .null], [], sM Ln I30 L30 c s) _
        refine dd_Rn.cV 1 (pc := 42) (ls := [.ref 131, .null]) (st := [.ref 131]) (x := m_X4_advance) (as := [.ref 131]) (rest := []) rfl rfl rfl rfl h ?_
        intro I31 L31 h
        show dd_Rn (e + 16) m_X3_readAtom (45, [.ref 131, .null], [], sM Ln I31 L31 c s) _
        refine dd_Rn.cV 2 (pc := 128) (ls := [.ref 131, .null]) (st := [.ref 131]) (x := m_X3_addNots) (as := [.ref 131]) (rest := []) rfl rfl rfl rfl h ?_
        intro I32 L32 h
        show dd_Rn (e + 16) m_X3_readAtom (131, [.ref 131, .null], [], sM Ln I32 L32 c s) _
        exact dd_Rn.retK 1 (pc := 132) (ls := [.ref 131, .null]) (st := [.int 1]) (M := sM Ln I32 L32 c s) (o := (none, .int 1, sM Ln I32 L32 c s)) rfl rfl h (by omega)
      · have h := h.2 hc
        refine dd_Rn.cV 2 (pc := 38) (ls := [.ref 131, .null]) (st := [.int (-2), .ref 27]) (x := m_X2_add) (as := [.ref 27, .int (-2)]) (rest := []) rfl rfl rfl rfl h ?_
        intro I33 L33 h
        show dd_Rn (e + 16) m_X3_readAtom (41, [.ref 131, .null], [], sM Ln I33 L33 c s) _
        refine dd_Rn.cV 1 (pc := 42) (ls := [.ref 131, .null]) (st := [.ref 131]) (x := m_X4_advance) (as := [.ref 131]) (rest := []) rfl rfl rfl rfl h ?_
        intro I34 L34 h
        show dd_Rn (e + 16) m_X3_readAtom (45, [.ref 131, .null], [], sM Ln I34 L34 c s) _
        refine dd_Rn.cV 2 (pc := 128) (ls := [.ref 131, .null]) (st := [.ref 131]) (x := m_X3_addNots) (as := [.ref 131]) (rest := []) rfl rfl rfl rfl h ?_
        intro I35 L35 h
        show dd_Rn (e + 16) m_X3_readAtom (131, [.ref 131, .null], [], sM Ln I35 L35 c s) _
        exact dd_Rn.retK 1 (pc := 132) (ls := [.ref 131, .null]) (st := [.int 1]) (M := sM Ln I35 L35 c s) (o := (none, .int 1, sM Ln I35 L35 c s)) rfl rfl h (by omega)
  · have h := h.2 hc
    refine dd_Rn.cI 4 (pc := 25) (ls := [.ref 131, .null]) (st := [.ref 1000005, .ref 131, .ref 27]) (x := m_X4_isWord) (as := [.ref 131, .ref 1000005]) (rest := [.ref 27]) rfl rfl rfl rfl h ?_
    intro x36 I36 L36 h
    show dd_Rn (e + 16) m_X3_readAtom (28, [.ref 131, .null], [.int x36, .ref 27], sM Ln I36 L36 c s) _
    refine dd_Rn.ite 0 (c := x36 = 0) (A := (36, [.ref 131, .null], [.ref 27], sM Ln I36 L36 c s)) (B := (31, [.ref 131, .null], [.ref 27], sM Ln I36 L36 c s)) rfl (fun hc => ?_) (fun hc => ?_) (by omega)
    · have h := h.1 hc
      refine dd_Rn.cV 1 (pc := 38) (ls := [.ref 131, .null]) (st := [.int (-3), .ref 27]) (x := m_X2_add) (as := [.ref 27, .int (-3)]) (rest := []) rfl rfl rfl rfl h ?_
      intro I37 L37 h
      show dd_Rn (e + 16) m_X3_readAtom (41, [.ref 131, .null], [], sM Ln I37 L37 c s) _
      refine dd_Rn.cV 1 (pc := 42) (ls := [.ref 131, .null]) (st := [.ref 131]) (x := m_X4_advance) (as := [.ref 131]) (rest := []) rfl rfl rfl rfl h ?_
      intro I38 L38 h
      show dd_Rn (e + 16) m_X3_readAtom (45, [.ref 131, .null], [], sM Ln I38 L38 c s) _
      refine dd_Rn.cV 2 (pc := 128) (ls := [.ref 131, .null]) (st := [.ref 131]) (x := m_X3_addNots) (as := [.ref 131]) (rest := []) rfl rfl rfl rfl h ?_
      intro I39 L39 h
      show dd_Rn (e + 16) m_X3_readAtom (131, [.ref 131, .null], [], sM Ln I39 L39 c s) _
      exact dd_Rn.retK 1 (pc := 132) (ls := [.ref 131, .null]) (st := [.int 1]) (M := sM Ln I39 L39 c s) (o := (none, .int 1, sM Ln I39 L39 c s)) rfl rfl h (by omega)
    · have h := h.2 hc
      refine dd_Rn.cV 2 (pc := 38) (ls := [.ref 131, .null]) (st := [.int (-2), .ref 27]) (x := m_X2_add) (as := [.ref 27, .int (-2)]) (rest := []) rfl rfl rfl rfl h ?_
      intro I40 L40 h
      show dd_Rn (e + 16) m_X3_readAtom (41, [.ref 131, .null], [], sM Ln I40 L40 c s) _
      refine dd_Rn.cV 1 (pc := 42) (ls := [.ref 131, .null]) (st := [.ref 131]) (x := m_X4_advance) (as := [.ref 131]) (rest := []) rfl rfl rfl rfl h ?_
      intro I41 L41 h
      show dd_Rn (e + 16) m_X3_readAtom (45, [.ref 131, .null], [], sM Ln I41 L41 c s) _
      refine dd_Rn.cV 2 (pc := 128) (ls := [.ref 131, .null]) (st := [.ref 131]) (x := m_X3_addNots) (as := [.ref 131]) (rest := []) rfl rfl rfl rfl h ?_
      intro I42 L42 h
      show dd_Rn (e + 16) m_X3_readAtom (131, [.ref 131, .null], [], sM Ln I42 L42 c s) _
      exact dd_Rn.retK 1 (pc := 132) (ls := [.ref 131, .null]) (st := [.int 1]) (M := sM Ln I42 L42 c s) (o := (none, .int 1, sM Ln I42 L42 c s)) rfl rfl h (by omega)

theorem w_X3_readSum_0 {Ln d c s : Nat} {I : Nat → Nat → Int32} {L : Nat → Nat → Int64} {Q : dd_O → Prop} (hd : 28 ≤ d) (h : dd_Rn d m_X3_readSum (2, [.ref 131, .int 0, .null], [], sM Ln I L c s) Q) : dd_Ev d m_X3_readSum [.ref 131] (sM Ln I L c s) Q := by
  obtain ⟨e, rfl⟩ : ∃ e, d = e + 16 := ⟨d - 16, by omega⟩
  show dd_Rn (e + 16) m_X3_readSum (0, [.ref 131, .null, .null], [], sM Ln I L c s) Q
  exact dd_Rn.go 2 (cf' := (2, [.ref 131, .int 0, .null], [], sM Ln I L c s)) rfl h (by omega)

theorem w_X3_readSum_2 {Ln d c s : Nat} {I : Nat → Nat → Int32} {L : Nat → Nat → Int64} {Q : dd_O → Prop} {a1 : Int32} {a2 : Value} (hd : 28 ≤ d) (h : (((400 : Int32) < a1 → dd_Ev (d - 1) m_X4_refuse [.ref 131] (sM Ln I L c s) (dd_RI Ln c s (fun x1 I1 L1 => ((x1 = 0 ∨ x1 = 1) ∧ Q (none, .int x1, sM Ln I1 L1 c s))))) ∧ (¬ ((400 : Int32) < a1) → ((I 131 2 = 2 → dd_Ev (d - 1) m_X4_numberUpTo [.ref 131, .int 999] (sM Ln I L c s) (dd_RI Ln c s (fun x2 I2 L2 => dd_Rn d m_X3_readSum (139, [.ref 131, .int a1, a2], [.int x2], sM Ln I2 L2 c s) Q))) ∧ (¬ (I 131 2 = 2) → dd_Ev (d - 1) m_X4_isWord [.ref 131, .ref 1000007] (sM Ln I L c s) (dd_RI Ln c s (fun x3 I3 L3 => ((x3 = 0 → dd_Ev (d - 1) m_X4_isWord [.ref 131, .ref 1000008] (sM Ln I3 L3 c s) (dd_RI Ln c s (fun x4 I4 L4 => ((x4 = 0 → dd_Ev (d - 1) m_X4_isWord [.ref 131, .ref 1000009] (sM Ln I4 L4 c s) (dd_RI Ln c s (fun x5 I5 L5 => ((x5 = 0 → dd_Ev (d - 1) m_X4_isWord [.ref 131, .ref 1000010] (sM Ln I5 L5 c s) (dd_RI Ln c s (fun x6 I6 L6 => ((x6 = 0 → dd_Ev (d - 1) m_X4_isWord [.ref 131, .ref 1000011] (sM Ln I6 L6 c s) (dd_RI Ln c s (fun x7 I7 L7 => ((x7 = 0 → dd_Ev (d - 1) m_X4_isWord [.ref 131, .ref 1000012] (sM Ln I7 L7 c s) (dd_RI Ln c s (fun x8 I8 L8 => ((x8 = 0 → dd_Ev (d - 1) m_X4_isWord [.ref 131, .ref 1000013] (sM Ln I8 L8 c s) (dd_RI Ln c s (fun x9 I9 L9 => ((x9 = 0 → dd_Ev (d - 1) m_X4_isWord [.ref 131, .ref 1000014] (sM Ln I9 L9 c s) (dd_RI Ln c s (fun x10 I10 L10 => ((x10 = 0 → dd_Rn d m_X3_readSum (139, [.ref 131, .int a1, a2], [.int (-1)], sM Ln I10 L10 c s) Q) ∧ (¬ (x10 = 0) → dd_Rn d m_X3_readSum (139, [.ref 131, .int a1, a2], [.int (-27)], sM Ln I10 L10 c s) Q))))) ∧ (¬ (x9 = 0) → dd_Rn d m_X3_readSum (139, [.ref 131, .int a1, a2], [.int (-26)], sM Ln I9 L9 c s) Q))))) ∧ (¬ (x8 = 0) → dd_Rn d m_X3_readSum (139, [.ref 131, .int a1, a2], [.int (-25)], sM Ln I8 L8 c s) Q))))) ∧ (¬ (x7 = 0) → dd_Rn d m_X3_readSum (139, [.ref 131, .int a1, a2], [.int (-24)], sM Ln I7 L7 c s) Q))))) ∧ (¬ (x6 = 0) → dd_Rn d m_X3_readSum (139, [.ref 131, .int a1, a2], [.int (-23)], sM Ln I6 L6 c s) Q))))) ∧ (¬ (x5 = 0) → dd_Rn d m_X3_readSum (139, [.ref 131, .int a1, a2], [.int (-22)], sM Ln I5 L5 c s) Q))))) ∧ (¬ (x4 = 0) → dd_Rn d m_X3_readSum (139, [.ref 131, .int a1, a2], [.int (-21)], sM Ln I4 L4 c s) Q))))) ∧ (¬ (x3 = 0) → dd_Rn d m_X3_readSum (139, [.ref 131, .int a1, a2], [.int (-20)], sM Ln I3 L3 c s) Q))))))))) : dd_Rn d m_X3_readSum (2, [.ref 131, .int a1, a2], [], sM Ln I L c s) Q := by
  obtain ⟨e, rfl⟩ : ∃ e, d = e + 16 := ⟨d - 16, by omega⟩
  refine dd_Rn.ite 2 (c := (400 : Int32) < a1) (A := (183, [.ref 131, .int a1, a2], [], sM Ln I L c s)) (B := (9, [.ref 131, .int a1, a2], [], sM Ln I L c s)) rfl (fun hc => ?_) (fun hc => ?_) (by omega)
  · have h := h.1 hc
    refine dd_Rn.cI 1 (pc := 184) (ls := [.ref 131, .int a1, a2]) (st := [.ref 131]) (x := m_X4_refuse) (as := [.ref 131]) (rest := []) rfl rfl rfl rfl h ?_
    intro x1 I1 L1 h
    show dd_Rn (e + 16) m_X3_readSum (187, [.ref 131, .int a1, a2], [.int x1], sM Ln I1 L1 c s) _
    obtain ⟨hc, h⟩ := h
    exact dd_Rn.retB 0 (cf' := (187, [.ref 131, .int a1, a2], [.int x1], sM Ln I1 L1 c s)) (v := x1) rfl rfl hc h (by omega)
  · have h := h.2 hc
    refine dd_Rn.sub 1 (pc := 10) (ls := [.ref 131, .int a1, a2]) (st := [.ref 131]) (M := sM Ln I L c s) (x := m_X4_isNumber) (as := [.ref 131]) (rest := []) rfl rfl rfl rfl ?_
    show dd_Rn (e + 15) m_X4_isNumber (0, [.ref 131], [], sM Ln I L c s) _
    refine dd_Rn.ite 3 (c := I 131 2 = 2) (A := (8, [.ref 131], [], sM Ln I L c s)) (B := (12, [.ref 131], [], sM Ln I L c s)) rfl (fun hc => ?_) (fun hc => ?_) (by omega)
    · have h := h.1 hc
      refine dd_Rn.retK 2 (pc := 13) (ls := [.ref 131]) (st := [.int 1]) (M := sM Ln I L c s) (o := (none, .int 1, sM Ln I L c s)) rfl rfl (dd_Af.ret rfl ?_) (by omega)
      show dd_Rn (e + 16) m_X3_readSum (13, [.ref 131, .int a1, a2], [.int 1], sM Ln I L c s) _
      refine dd_Rn.cI 3 (pc := 20) (ls := [.ref 131, .int a1, a2]) (st := [.int 999, .ref 131]) (x := m_X4_numberUpTo) (as := [.ref 131, .int 999]) (rest := []) rfl rfl rfl rfl h ?_
      intro x2 I2 L2 h
      show dd_Rn (e + 16) m_X3_readSum (23, [.ref 131, .int a1, a2], [.int x2], sM Ln I2 L2 c s) _
      exact dd_Rn.go 1 (cf' := (139, [.ref 131, .int a1, a2], [.int x2], sM Ln I2 L2 c s)) rfl h (by omega)
    · have h := h.2 hc
      refine dd_Rn.retK 1 (pc := 13) (ls := [.ref 131]) (st := [.int 0]) (M := sM Ln I L c s) (o := (none, .int 0, sM Ln I L c s)) rfl rfl (dd_Af.ret rfl ?_) (by omega)
      show dd_Rn (e + 16) m_X3_readSum (13, [.ref 131, .int a1, a2], [.int 0], sM Ln I L c s) _
      refine dd_Rn.cI 3 (pc := 29) (ls := [.ref 131, .int a1, a2]) (st := [.ref 1000007, .ref 131]) (x := m_X4_isWord) (as := [.ref 131, .ref 1000007]) (rest := []) rfl rfl rfl rfl h ?_
      intro x3 I3 L3 h
      show dd_Rn (e + 16) m_X3_readSum (32, [.ref 131, .int a1, a2], [.int x3], sM Ln I3 L3 c s) _
      refine dd_Rn.ite 0 (c := x3 = 0) (A := (40, [.ref 131, .int a1, a2], [], sM Ln I3 L3 c s)) (B := (35, [.ref 131, .int a1, a2], [], sM Ln I3 L3 c s)) rfl (fun hc => ?_) (fun hc => ?_) (by omega)
      · have h := h.1 hc
        refine dd_Rn.cI 2 (pc := 43) (ls := [.ref 131, .int a1, a2]) (st := [.ref 1000008, .ref 131]) (x := m_X4_isWord) (as := [.ref 131, .ref 1000008]) (rest := []) rfl rfl rfl rfl h ?_
        intro x4 I4 L4 h
        show dd_Rn (e + 16) m_X3_readSum (46, [.ref 131, .int a1, a2], [.int x4], sM Ln I4 L4 c s) _
        refine dd_Rn.ite 0 (c := x4 = 0) (A := (54, [.ref 131, .int a1, a2], [], sM Ln I4 L4 c s)) (B := (49, [.ref 131, .int a1, a2], [], sM Ln I4 L4 c s)) rfl (fun hc => ?_) (fun hc => ?_) (by omega)
        · have h := h.1 hc
          refine dd_Rn.cI 2 (pc := 57) (ls := [.ref 131, .int a1, a2]) (st := [.ref 1000009, .ref 131]) (x := m_X4_isWord) (as := [.ref 131, .ref 1000009]) (rest := []) rfl rfl rfl rfl h ?_
          intro x5 I5 L5 h
          show dd_Rn (e + 16) m_X3_readSum (60, [.ref 131, .int a1, a2], [.int x5], sM Ln I5 L5 c s) _
          refine dd_Rn.ite 0 (c := x5 = 0) (A := (68, [.ref 131, .int a1, a2], [], sM Ln I5 L5 c s)) (B := (63, [.ref 131, .int a1, a2], [], sM Ln I5 L5 c s)) rfl (fun hc => ?_) (fun hc => ?_) (by omega)
          · have h := h.1 hc
            refine dd_Rn.cI 2 (pc := 71) (ls := [.ref 131, .int a1, a2]) (st := [.ref 1000010, .ref 131]) (x := m_X4_isWord) (as := [.ref 131, .ref 1000010]) (rest := []) rfl rfl rfl rfl h ?_
            intro x6 I6 L6 h
            show dd_Rn (e + 16) m_X3_readSum (74, [.ref 131, .int a1, a2], [.int x6], sM Ln I6 L6 c s) _
            refine dd_Rn.ite 0 (c := x6 = 0) (A := (82, [.ref 131, .int a1, a2], [], sM Ln I6 L6 c s)) (B := (77, [.ref 131, .int a1, a2], [], sM Ln I6 L6 c s)) rfl (fun hc => ?_) (fun hc => ?_) (by omega)
            · have h := h.1 hc
              refine dd_Rn.cI 2 (pc := 85) (ls := [.ref 131, .int a1, a2]) (st := [.ref 1000011, .ref 131]) (x := m_X4_isWord) (as := [.ref 131, .ref 1000011]) (rest := []) rfl rfl rfl rfl h ?_
              intro x7 I7 L7 h
              show dd_Rn (e + 16) m_X3_readSum (88, [.ref 131, .int a1, a2], [.int x7], sM Ln I7 L7 c s) _
              refine dd_Rn.ite 0 (c := x7 = 0) (A := (96, [.ref 131, .int a1, a2], [], sM Ln I7 L7 c s)) (B := (91, [.ref 131, .int a1, a2], [], sM Ln I7 L7 c s)) rfl (fun hc => ?_) (fun hc => ?_) (by omega)
              · have h := h.1 hc
                refine dd_Rn.cI 2 (pc := 99) (ls := [.ref 131, .int a1, a2]) (st := [.ref 1000012, .ref 131]) (x := m_X4_isWord) (as := [.ref 131, .ref 1000012]) (rest := []) rfl rfl rfl rfl h ?_
                intro x8 I8 L8 h
                show dd_Rn (e + 16) m_X3_readSum (102, [.ref 131, .int a1, a2], [.int x8], sM Ln I8 L8 c s) _
                refine dd_Rn.ite 0 (c := x8 = 0) (A := (110, [.ref 131, .int a1, a2], [], sM Ln I8 L8 c s)) (B := (105, [.ref 131, .int a1, a2], [], sM Ln I8 L8 c s)) rfl (fun hc => ?_) (fun hc => ?_) (by omega)
                · have h := h.1 hc
                  refine dd_Rn.cI 2 (pc := 113) (ls := [.ref 131, .int a1, a2]) (st := [.ref 1000013, .ref 131]) (x := m_X4_isWord) (as := [.ref 131, .ref 1000013]) (rest := []) rfl rfl rfl rfl h ?_
                  intro x9 I9 L9 h
                  show dd_Rn (e + 16) m_X3_readSum (116, [.ref 131, .int a1, a2], [.int x9], sM Ln I9 L9 c s) _
                  refine dd_Rn.ite 0 (c := x9 = 0) (A := (124, [.ref 131, .int a1, a2], [], sM Ln I9 L9 c s)) (B := (119, [.ref 131, .int a1, a2], [], sM Ln I9 L9 c s)) rfl (fun hc => ?_) (fun hc => ?_) (by omega)
                  · have h := h.1 hc
                    refine dd_Rn.cI 2 (pc := 127) (ls := [.ref 131, .int a1, a2]) (st := [.ref 1000014, .ref 131]) (x := m_X4_isWord) (as := [.ref 131, .ref 1000014]) (rest := []) rfl rfl rfl rfl h ?_
                    intro x10 I10 L10 h
                    show dd_Rn (e + 16) m_X3_readSum (130, [.ref 131, .int a1, a2], [.int x10], sM Ln I10 L10 c s) _
                    refine dd_Rn.ite 0 (c := x10 = 0) (A := (138, [.ref 131, .int a1, a2], [], sM Ln I10 L10 c s)) (B := (133, [.ref 131, .int a1, a2], [], sM Ln I10 L10 c s)) rfl (fun hc => ?_) (fun hc => ?_) (by omega)
                    · have h := h.1 hc
                      exact dd_Rn.go 1 (cf' := (139, [.ref 131, .int a1, a2], [.int (-1)], sM Ln I10 L10 c s)) rfl h (by omega)
                    · have h := h.2 hc
                      exact dd_Rn.go 2 (cf' := (139, [.ref 131, .int a1, a2], [.int (-27)], sM Ln I10 L10 c s)) rfl h (by omega)
                  · have h := h.2 hc
                    exact dd_Rn.go 2 (cf' := (139, [.ref 131, .int a1, a2], [.int (-26)], sM Ln I9 L9 c s)) rfl h (by omega)
                · have h := h.2 hc
                  exact dd_Rn.go 2 (cf' := (139, [.ref 131, .int a1, a2], [.int (-25)], sM Ln I8 L8 c s)) rfl h (by omega)
              · have h := h.2 hc
                exact dd_Rn.go 2 (cf' := (139, [.ref 131, .int a1, a2], [.int (-24)], sM Ln I7 L7 c s)) rfl h (by omega)
            · have h := h.2 hc
              exact dd_Rn.go 2 (cf' := (139, [.ref 131, .int a1, a2], [.int (-23)], sM Ln I6 L6 c s)) rfl h (by omega)
          · have h := h.2 hc
            exact dd_Rn.go 2 (cf' := (139, [.ref 131, .int a1, a2], [.int (-22)], sM Ln I5 L5 c s)) rfl h (by omega)
        · have h := h.2 hc
          exact dd_Rn.go 2 (cf' := (139, [.ref 131, .int a1, a2], [.int (-21)], sM Ln I4 L4 c s)) rfl h (by omega)
      · have h := h.2 hc
        exact dd_Rn.go 2 (cf' := (139, [.ref 131, .int a1, a2], [.int (-20)], sM Ln I3 L3 c s)) rfl h (by omega)

theorem w_X3_readSum_139 {Ln d c s : Nat} {I : Nat → Nat → Int32} {L : Nat → Nat → Int64} {Q : dd_O → Prop} {a1 b0 : Int32} {a2 : Value} (hd : 28 ≤ d) (h : ((b0 = (-1) → dd_Ev (d - 1) m_X4_refuse [.ref 131] (sM Ln I L c s) (dd_RI Ln c s (fun x1 I1 L1 => ((x1 = 0 ∨ x1 = 1) ∧ Q (none, .int x1, sM Ln I1 L1 c s))))) ∧ (¬ (b0 = (-1)) → dd_Ev (d - 1) m_X2_add [.ref 27, .int b0] (sM Ln I L c s) (dd_RV Ln c s (fun I2 L2 => dd_Ev (d - 1) m_X4_advance [.ref 131] (sM Ln I2 L2 c s) (dd_RV Ln c s (fun I3 L3 => dd_Ev (d - 1) m_X4_isSign [.ref 131, .int 43] (sM Ln I3 L3 c s) (dd_RI Ln c s (fun x4 I4 L4 => ((x4 = 0 → Q (none, .int 1, sM Ln I4 L4 c s)) ∧ (¬ (x4 = 0) → dd_Ev (d - 1) m_X4_advance [.ref 131] (sM Ln I4 L4 c s) (dd_RV Ln c s (fun I5 L5 => dd_Rn d m_X3_readSum (2, [.ref 131, .int (a1 + 1), .int b0], [], sM Ln I5 L5 c s) Q))))))))))))) : dd_Rn d m_X3_readSum (139, [.ref 131, .int a1, a2], [.int b0], sM Ln I L c s) Q := by
  obtain ⟨e, rfl⟩ : ∃ e, d = e + 16 := ⟨d - 16, by omega⟩
  refine dd_Rn.ite 3 (c := b0 = (-1)) (A := (145, [.ref 131, .int a1, .int b0], [], sM Ln I L c s)) (B := (150, [.ref 131, .int a1, .int b0], [], sM Ln I L c s)) rfl (fun hc => ?_) (fun hc => ?_) (by omega)
  · have h := h.1 hc
    refine dd_Rn.cI 1 (pc := 146) (ls := [.ref 131, .int a1, .int b0]) (st := [.ref 131]) (x := m_X4_refuse) (as := [.ref 131]) (rest := []) rfl rfl rfl rfl h ?_
    intro x1 I1 L1 h
    show dd_Rn (e + 16) m_X3_readSum (149, [.ref 131, .int a1, .int b0], [.int x1], sM Ln I1 L1 c s) _
    obtain ⟨hc, h⟩ := h
    exact dd_Rn.retB 0 (cf' := (149, [.ref 131, .int a1, .int b0], [.int x1], sM Ln I1 L1 c s)) (v := x1) rfl rfl hc h (by omega)
  · have h := h.2 hc
    refine dd_Rn.cV 3 (pc := 155) (ls := [.ref 131, .int a1, .int b0]) (st := [.int b0, .ref 27]) (x := m_X2_add) (as := [.ref 27, .int b0]) (rest := []) rfl rfl rfl rfl h ?_
    intro I2 L2 h
    show dd_Rn (e + 16) m_X3_readSum (158, [.ref 131, .int a1, .int b0], [], sM Ln I2 L2 c s) _
    refine dd_Rn.cV 1 (pc := 159) (ls := [.ref 131, .int a1, .int b0]) (st := [.ref 131]) (x := m_X4_advance) (as := [.ref 131]) (rest := []) rfl rfl rfl rfl h ?_
    intro I3 L3 h
    show dd_Rn (e + 16) m_X3_readSum (162, [.ref 131, .int a1, .int b0], [], sM Ln I3 L3 c s) _
    refine dd_Rn.cI 2 (pc := 165) (ls := [.ref 131, .int a1, .int b0]) (st := [.int 43, .ref 131]) (x := m_X4_isSign) (as := [.ref 131, .int 43]) (rest := []) rfl rfl rfl rfl h ?_
    intro x4 I4 L4 h
    show dd_Rn (e + 16) m_X3_readSum (168, [.ref 131, .int a1, .int b0], [.int x4], sM Ln I4 L4 c s) _
    refine dd_Rn.ite 0 (c := x4 = 0) (A := (171, [.ref 131, .int a1, .int b0], [], sM Ln I4 L4 c s)) (B := (173, [.ref 131, .int a1, .int b0], [], sM Ln I4 L4 c s)) rfl (fun hc => ?_) (fun hc => ?_) (by omega)
    · have h := h.1 hc
      exact dd_Rn.retK 1 (pc := 172) (ls := [.ref 131, .int a1, .int b0]) (st := [.int 1]) (M := sM Ln I4 L4 c s) (o := (none, .int 1, sM Ln I4 L4 c s)) rfl rfl h (by omega)
    · have h := h.2 hc
      refine dd_Rn.cV 1 (pc := 174) (ls := [.ref 131, .int a1, .int b0]) (st := [.ref 131]) (x := m_X4_advance) (as := [.ref 131]) (rest := []) rfl rfl rfl rfl h ?_
      intro I5 L5 h
      show dd_Rn (e + 16) m_X3_readSum (177, [.ref 131, .int a1, .int b0], [], sM Ln I5 L5 c s) _
      exact dd_Rn.go 2 (cf' := (2, [.ref 131, .int (a1 + 1), .int b0], [], sM Ln I5 L5 c s)) rfl h (by omega)

theorem w_X4_readLines_130_0 {Ln d c s : Nat} {I : Nat → Nat → Int32} {L : Nat → Nat → Int64} {Q : dd_O → Prop} {a1 a2 : Int32} (hd : 28 ≤ d) (h : dd_Ev (d - 1) m_X4_advance [.ref 130] (sM Ln (dd_u (dd_u (dd_u I 130 (upd (I 130) 1 (if (400 : Int32) < a1 then 400 else a1))) 130 (upd (upd (I 130) 1 (if (400 : Int32) < a1 then 400 else a1)) 4 0)) 130 (upd (upd (upd (I 130) 1 (if (400 : Int32) < a1 then 400 else a1)) 4 0) 5 (-1))) L c s) (dd_RV Ln c s (fun I1 L1 => ((I1 130 2 = 0 → Q (none, .int 0, sM Ln I1 L1 c s)) ∧ (¬ (I1 130 2 = 0) → dd_Rn d m_X4_readLines (38, [.ref 130, .int a1, .int a2, .int 1], [], sM Ln I1 L1 c s) Q))))) : dd_Ev d m_X4_readLines [.ref 130, .int a1, .int a2] (sM Ln I L c s) Q := by
  obtain ⟨e, rfl⟩ : ∃ e, d = e + 16 := ⟨d - 16, by omega⟩
  show dd_Rn (e + 16) m_X4_readLines (0, [.ref 130, .int a1, .int a2, .null], [], sM Ln I L c s) Q
  refine dd_Rn.cV 14 (pc := 24) (ls := [.ref 130, .int a1, .int a2, .null]) (st := [.ref 130]) (x := m_X4_advance) (as := [.ref 130]) (rest := []) rfl rfl rfl rfl h ?_
  intro I1 L1 h
  show dd_Rn (e + 16) m_X4_readLines (27, [.ref 130, .int a1, .int a2, .null], [], sM Ln I1 L1 c s) _
  refine dd_Rn.ite 2 (c := I1 130 2 = 0) (A := (34, [.ref 130, .int a1, .int a2, .null], [], sM Ln I1 L1 c s)) (B := (36, [.ref 130, .int a1, .int a2, .null], [], sM Ln I1 L1 c s)) rfl (fun hc => ?_) (fun hc => ?_) (by omega)
  · have h := h.1 hc
    exact dd_Rn.retK 1 (pc := 35) (ls := [.ref 130, .int a1, .int a2, .null]) (st := [.int 0]) (M := sM Ln I1 L1 c s) (o := (none, .int 0, sM Ln I1 L1 c s)) rfl rfl h (by omega)
  · have h := h.2 hc
    exact dd_Rn.go 2 (cf' := (38, [.ref 130, .int a1, .int a2, .int 1], [], sM Ln I1 L1 c s)) rfl h (by omega)

theorem w_X4_readLines_130_38 {Ln d c s : Nat} {I : Nat → Nat → Int32} {L : Nat → Nat → Int64} {Q : dd_O → Prop} {a1 a2 a3 : Int32} (hd : 28 ≤ d) (h : ((a2 < a3 → dd_Ev (d - 1) m_X4_refuse [.ref 130] (sM Ln I L c s) (dd_RI Ln c s (fun x1 I1 L1 => Q (none, .int (-1), sM Ln I1 L1 c s)))) ∧ (¬ (a2 < a3) → dd_Ev (d - 1) m_X9_readLine [.ref 130] (sM Ln I L c s) (dd_RI Ln c s (fun x2 I2 L2 => ((x2 = 0 → Q (none, .int (-1), sM Ln I2 L2 c s)) ∧ (¬ (x2 = 0) → ((I2 130 2 = 0 → Q (none, .int a3, sM Ln I2 L2 c s)) ∧ (¬ (I2 130 2 = 0) → dd_Ev (d - 1) m_X4_takeSign [.ref 130, .int 59] (sM Ln I2 L2 c s) (dd_RI Ln c s (fun x3 I3 L3 => ((x3 = 0 → Q (none, .int (-1), sM Ln I3 L3 c s)) ∧ (¬ (x3 = 0) → dd_Rn d m_X4_readLines (38, [.ref 130, .int a1, .int a2, .int (a3 + 1)], [], sM Ln I3 L3 c s) Q))))))))))))) : dd_Rn d m_X4_readLines (38, [.ref 130, .int a1, .int a2, .int a3], [], sM Ln I L c s) Q := by
  obtain ⟨e, rfl⟩ : ∃ e, d = e + 16 := ⟨d - 16, by omega⟩
  refine dd_Rn.ite 2 (c := a2 < a3) (A := (78, [.ref 130, .int a1, .int a2, .int a3], [], sM Ln I L c s)) (B := (43, [.ref 130, .int a1, .int a2, .int a3], [], sM Ln I L c s)) rfl (fun hc => ?_) (fun hc => ?_) (by omega)
  · have h := h.1 hc
    refine dd_Rn.cI 1 (pc := 79) (ls := [.ref 130, .int a1, .int a2, .int a3]) (st := [.ref 130]) (x := m_X4_refuse) (as := [.ref 130]) (rest := []) rfl rfl rfl rfl h ?_
    intro x1 I1 L1 h
    show dd_Rn (e + 16) m_X4_readLines (82, [.ref 130, .int a1, .int a2, .int a3], [.int x1], sM Ln I1 L1 c s) _
    exact dd_Rn.retK 2 (pc := 84) (ls := [.ref 130, .int a1, .int a2, .int a3]) (st := [.int (-1)]) (M := sM Ln I1 L1 c s) (o := (none, .int (-1), sM Ln I1 L1 c s)) rfl rfl h (by omega)
  · have h := h.2 hc
    refine dd_Rn.cI 1 (pc := 44) (ls := [.ref 130, .int a1, .int a2, .int a3]) (st := [.ref 130]) (x := m_X9_readLine) (as := [.ref 130]) (rest := []) rfl rfl rfl rfl h ?_
    intro x2 I2 L2 h
    show dd_Rn (e + 16) m_X4_readLines (47, [.ref 130, .int a1, .int a2, .int a3], [.int x2], sM Ln I2 L2 c s) _
    refine dd_Rn.ite 0 (c := x2 = 0) (A := (50, [.ref 130, .int a1, .int a2, .int a3], [], sM Ln I2 L2 c s)) (B := (52, [.ref 130, .int a1, .int a2, .int a3], [], sM Ln I2 L2 c s)) rfl (fun hc => ?_) (fun hc => ?_) (by omega)
    · have h := h.1 hc
      exact dd_Rn.retK 1 (pc := 51) (ls := [.ref 130, .int a1, .int a2, .int a3]) (st := [.int (-1)]) (M := sM Ln I2 L2 c s) (o := (none, .int (-1), sM Ln I2 L2 c s)) rfl rfl h (by omega)
    · have h := h.2 hc
      refine dd_Rn.ite 2 (c := I2 130 2 = 0) (A := (59, [.ref 130, .int a1, .int a2, .int a3], [], sM Ln I2 L2 c s)) (B := (61, [.ref 130, .int a1, .int a2, .int a3], [], sM Ln I2 L2 c s)) rfl (fun hc => ?_) (fun hc => ?_) (by omega)
      · have h := h.1 hc
        exact dd_Rn.retK 1 (pc := 60) (ls := [.ref 130, .int a1, .int a2, .int a3]) (st := [.int a3]) (M := sM Ln I2 L2 c s) (o := (none, .int a3, sM Ln I2 L2 c s)) rfl rfl h (by omega)
      · have h := h.2 hc
        refine dd_Rn.cI 2 (pc := 64) (ls := [.ref 130, .int a1, .int a2, .int a3]) (st := [.int 59, .ref 130]) (x := m_X4_takeSign) (as := [.ref 130, .int 59]) (rest := []) rfl rfl rfl rfl h ?_
        intro x3 I3 L3 h
        show dd_Rn (e + 16) m_X4_readLines (67, [.ref 130, .int a1, .int a2, .int a3], [.int x3], sM Ln I3 L3 c s) _
        refine dd_Rn.ite 0 (c := x3 = 0) (A := (70, [.ref 130, .int a1, .int a2, .int a3], [], sM Ln I3 L3 c s)) (B := (72, [.ref 130, .int a1, .int a2, .int a3], [], sM Ln I3 L3 c s)) rfl (fun hc => ?_) (fun hc => ?_) (by omega)
        · have h := h.1 hc
          exact dd_Rn.retK 1 (pc := 71) (ls := [.ref 130, .int a1, .int a2, .int a3]) (st := [.int (-1)]) (M := sM Ln I3 L3 c s) (o := (none, .int (-1), sM Ln I3 L3 c s)) rfl rfl h (by omega)
        · have h := h.2 hc
          exact dd_Rn.go 2 (cf' := (38, [.ref 130, .int a1, .int a2, .int (a3 + 1)], [], sM Ln I3 L3 c s)) rfl h (by omega)

theorem w_X4_readLines_131_0 {Ln d c s : Nat} {I : Nat → Nat → Int32} {L : Nat → Nat → Int64} {Q : dd_O → Prop} {a1 a2 : Int32} (hd : 28 ≤ d) (h : dd_Ev (d - 1) m_X4_advance [.ref 131] (sM Ln (dd_u (dd_u (dd_u I 131 (upd (I 131) 1 (if (400 : Int32) < a1 then 400 else a1))) 131 (upd (upd (I 131) 1 (if (400 : Int32) < a1 then 400 else a1)) 4 0)) 131 (upd (upd (upd (I 131) 1 (if (400 : Int32) < a1 then 400 else a1)) 4 0) 5 (-1))) L c s) (dd_RV Ln c s (fun I1 L1 => ((I1 131 2 = 0 → Q (none, .int 0, sM Ln I1 L1 c s)) ∧ (¬ (I1 131 2 = 0) → dd_Rn d m_X4_readLines (38, [.ref 131, .int a1, .int a2, .int 1], [], sM Ln I1 L1 c s) Q))))) : dd_Ev d m_X4_readLines [.ref 131, .int a1, .int a2] (sM Ln I L c s) Q := by
  obtain ⟨e, rfl⟩ : ∃ e, d = e + 16 := ⟨d - 16, by omega⟩
  show dd_Rn (e + 16) m_X4_readLines (0, [.ref 131, .int a1, .int a2, .null], [], sM Ln I L c s) Q
  refine dd_Rn.cV 14 (pc := 24) (ls := [.ref 131, .int a1, .int a2, .null]) (st := [.ref 131]) (x := m_X4_advance) (as := [.ref 131]) (rest := []) rfl rfl rfl rfl h ?_
  intro I1 L1 h
  show dd_Rn (e + 16) m_X4_readLines (27, [.ref 131, .int a1, .int a2, .null], [], sM Ln I1 L1 c s) _
  refine dd_Rn.ite 2 (c := I1 131 2 = 0) (A := (34, [.ref 131, .int a1, .int a2, .null], [], sM Ln I1 L1 c s)) (B := (36, [.ref 131, .int a1, .int a2, .null], [], sM Ln I1 L1 c s)) rfl (fun hc => ?_) (fun hc => ?_) (by omega)
  · have h := h.1 hc
    exact dd_Rn.retK 1 (pc := 35) (ls := [.ref 131, .int a1, .int a2, .null]) (st := [.int 0]) (M := sM Ln I1 L1 c s) (o := (none, .int 0, sM Ln I1 L1 c s)) rfl rfl h (by omega)
  · have h := h.2 hc
    exact dd_Rn.go 2 (cf' := (38, [.ref 131, .int a1, .int a2, .int 1], [], sM Ln I1 L1 c s)) rfl h (by omega)

theorem w_X4_readLines_131_38 {Ln d c s : Nat} {I : Nat → Nat → Int32} {L : Nat → Nat → Int64} {Q : dd_O → Prop} {a1 a2 a3 : Int32} (hd : 28 ≤ d) (h : ((a2 < a3 → dd_Ev (d - 1) m_X4_refuse [.ref 131] (sM Ln I L c s) (dd_RI Ln c s (fun x1 I1 L1 => Q (none, .int (-1), sM Ln I1 L1 c s)))) ∧ (¬ (a2 < a3) → dd_Ev (d - 1) m_X3_readLine [.ref 131] (sM Ln I L c s) (dd_RI Ln c s (fun x2 I2 L2 => ((x2 = 0 → Q (none, .int (-1), sM Ln I2 L2 c s)) ∧ (¬ (x2 = 0) → ((I2 131 2 = 0 → Q (none, .int a3, sM Ln I2 L2 c s)) ∧ (¬ (I2 131 2 = 0) → dd_Ev (d - 1) m_X4_takeSign [.ref 131, .int 59] (sM Ln I2 L2 c s) (dd_RI Ln c s (fun x3 I3 L3 => ((x3 = 0 → Q (none, .int (-1), sM Ln I3 L3 c s)) ∧ (¬ (x3 = 0) → dd_Rn d m_X4_readLines (38, [.ref 131, .int a1, .int a2, .int (a3 + 1)], [], sM Ln I3 L3 c s) Q))))))))))))) : dd_Rn d m_X4_readLines (38, [.ref 131, .int a1, .int a2, .int a3], [], sM Ln I L c s) Q := by
  obtain ⟨e, rfl⟩ : ∃ e, d = e + 16 := ⟨d - 16, by omega⟩
  refine dd_Rn.ite 2 (c := a2 < a3) (A := (78, [.ref 131, .int a1, .int a2, .int a3], [], sM Ln I L c s)) (B := (43, [.ref 131, .int a1, .int a2, .int a3], [], sM Ln I L c s)) rfl (fun hc => ?_) (fun hc => ?_) (by omega)
  · have h := h.1 hc
    refine dd_Rn.cI 1 (pc := 79) (ls := [.ref 131, .int a1, .int a2, .int a3]) (st := [.ref 131]) (x := m_X4_refuse) (as := [.ref 131]) (rest := []) rfl rfl rfl rfl h ?_
    intro x1 I1 L1 h
    show dd_Rn (e + 16) m_X4_readLines (82, [.ref 131, .int a1, .int a2, .int a3], [.int x1], sM Ln I1 L1 c s) _
    exact dd_Rn.retK 2 (pc := 84) (ls := [.ref 131, .int a1, .int a2, .int a3]) (st := [.int (-1)]) (M := sM Ln I1 L1 c s) (o := (none, .int (-1), sM Ln I1 L1 c s)) rfl rfl h (by omega)
  · have h := h.2 hc
    refine dd_Rn.cI 1 (pc := 44) (ls := [.ref 131, .int a1, .int a2, .int a3]) (st := [.ref 131]) (x := m_X3_readLine) (as := [.ref 131]) (rest := []) rfl rfl rfl rfl h ?_
    intro x2 I2 L2 h
    show dd_Rn (e + 16) m_X4_readLines (47, [.ref 131, .int a1, .int a2, .int a3], [.int x2], sM Ln I2 L2 c s) _
    refine dd_Rn.ite 0 (c := x2 = 0) (A := (50, [.ref 131, .int a1, .int a2, .int a3], [], sM Ln I2 L2 c s)) (B := (52, [.ref 131, .int a1, .int a2, .int a3], [], sM Ln I2 L2 c s)) rfl (fun hc => ?_) (fun hc => ?_) (by omega)
    · have h := h.1 hc
      exact dd_Rn.retK 1 (pc := 51) (ls := [.ref 131, .int a1, .int a2, .int a3]) (st := [.int (-1)]) (M := sM Ln I2 L2 c s) (o := (none, .int (-1), sM Ln I2 L2 c s)) rfl rfl h (by omega)
    · have h := h.2 hc
      refine dd_Rn.ite 2 (c := I2 131 2 = 0) (A := (59, [.ref 131, .int a1, .int a2, .int a3], [], sM Ln I2 L2 c s)) (B := (61, [.ref 131, .int a1, .int a2, .int a3], [], sM Ln I2 L2 c s)) rfl (fun hc => ?_) (fun hc => ?_) (by omega)
      · have h := h.1 hc
        exact dd_Rn.retK 1 (pc := 60) (ls := [.ref 131, .int a1, .int a2, .int a3]) (st := [.int a3]) (M := sM Ln I2 L2 c s) (o := (none, .int a3, sM Ln I2 L2 c s)) rfl rfl h (by omega)
      · have h := h.2 hc
        refine dd_Rn.cI 2 (pc := 64) (ls := [.ref 131, .int a1, .int a2, .int a3]) (st := [.int 59, .ref 131]) (x := m_X4_takeSign) (as := [.ref 131, .int 59]) (rest := []) rfl rfl rfl rfl h ?_
        intro x3 I3 L3 h
        show dd_Rn (e + 16) m_X4_readLines (67, [.ref 131, .int a1, .int a2, .int a3], [.int x3], sM Ln I3 L3 c s) _
        refine dd_Rn.ite 0 (c := x3 = 0) (A := (70, [.ref 131, .int a1, .int a2, .int a3], [], sM Ln I3 L3 c s)) (B := (72, [.ref 131, .int a1, .int a2, .int a3], [], sM Ln I3 L3 c s)) rfl (fun hc => ?_) (fun hc => ?_) (by omega)
        · have h := h.1 hc
          exact dd_Rn.retK 1 (pc := 71) (ls := [.ref 131, .int a1, .int a2, .int a3]) (st := [.int (-1)]) (M := sM Ln I3 L3 c s) (o := (none, .int (-1), sM Ln I3 L3 c s)) rfl rfl h (by omega)
        · have h := h.2 hc
          exact dd_Rn.go 2 (cf' := (38, [.ref 131, .int a1, .int a2, .int (a3 + 1)], [], sM Ln I3 L3 c s)) rfl h (by omega)

theorem w_X4_advance_0 {Ln d c s : Nat} {I : Nat → Nat → Int32} {L : Nat → Nat → Int64} {Q : dd_O → Prop} {k : Nat} (hd : 28 ≤ d) (hk : k = 130 ∨ k = 131) (h : dd_Rn d m_X4_advance (8, [.ref k, .null], [], sM Ln (dd_u I k (upd (I k) 3 (I k 4))) L c s) Q) : dd_Ev d m_X4_advance [.ref k] (sM Ln I L c s) Q := by
  obtain ⟨e, rfl⟩ : ∃ e, d = e + 16 := ⟨d - 16, by omega⟩
  show dd_Rn (e + 16) m_X4_advance (0, [.ref k, .null], [], sM Ln I L c s) Q
  rcases hk with rfl | rfl
  · exact dd_Rn.go 4 (cf' := (8, [.ref 130, .null], [], sM Ln (dd_u I 130 (upd (I 130) 3 (I 130 4))) L c s)) rfl h (by omega)
  · exact dd_Rn.go 4 (cf' := (8, [.ref 131, .null], [], sM Ln (dd_u I 131 (upd (I 131) 3 (I 131 4))) L c s)) rfl h (by omega)

theorem w_X4_advance_8 {Ln d c s : Nat} {I : Nat → Nat → Int32} {L : Nat → Nat → Int64} {Q : dd_O → Prop} {k : Nat} (hd : 28 ≤ d) (hk : k = 130 ∨ k = 131) (h : ((I k 1 ≤ I k 3 → dd_Ev (d - 1) m_X4_kindAt [.ref k, .int (I k 3)] (sM Ln I L c s) (dd_RI Ln c s (fun x1 I1 L1 => ((x1 = 0 → ((x1 = 1 → dd_Rn d m_X4_advance (101, [.ref k, .int 1], [], sM Ln (dd_u (dd_u I1 k (upd (I1 k) 2 x1)) k (upd (upd (I1 k) 2 x1) 4 ((I1 k 3) + 0))) L1 c s) Q) ∧ (¬ (x1 = 1) → ((x1 = 2 → dd_Rn d m_X4_advance (101, [.ref k, .int 1], [], sM Ln (dd_u (dd_u I1 k (upd (I1 k) 2 x1)) k (upd (upd (I1 k) 2 x1) 4 ((I1 k 3) + 0))) L1 c s) Q) ∧ (¬ (x1 = 2) → dd_Rn d m_X4_advance (101, [.ref k, .int 0], [], sM Ln (dd_u (dd_u I1 k (upd (I1 k) 2 x1)) k (upd (upd (I1 k) 2 x1) 4 ((I1 k 3) + 0))) L1 c s) Q))))) ∧ (¬ (x1 = 0) → ((x1 = 1 → dd_Rn d m_X4_advance (101, [.ref k, .int 1], [], sM Ln (dd_u (dd_u I1 k (upd (I1 k) 2 x1)) k (upd (upd (I1 k) 2 x1) 4 ((I1 k 3) + 1))) L1 c s) Q) ∧ (¬ (x1 = 1) → ((x1 = 2 → dd_Rn d m_X4_advance (101, [.ref k, .int 1], [], sM Ln (dd_u (dd_u I1 k (upd (I1 k) 2 x1)) k (upd (upd (I1 k) 2 x1) 4 ((I1 k 3) + 1))) L1 c s) Q) ∧ (¬ (x1 = 2) → dd_Rn d m_X4_advance (101, [.ref k, .int 0], [], sM Ln (dd_u (dd_u I1 k (upd (I1 k) 2 x1)) k (upd (upd (I1 k) 2 x1) 4 ((I1 k 3) + 1))) L1 c s) Q))))))))) ∧ (¬ (I k 1 ≤ I k 3) → ((0 ≤ I k 3 ∧ tn (I k 3) < 400) ∧ ((I 129 (tn (I k 3)) = 32 → dd_Rn d m_X4_advance (8, [.ref k, .null], [], sM Ln (dd_u I k (upd (I k) 3 ((I k 3) + 1))) L c s) Q) ∧ (¬ (I 129 (tn (I k 3)) = 32) → dd_Ev (d - 1) m_X4_kindAt [.ref k, .int (I k 3)] (sM Ln I L c s) (dd_RI Ln c s (fun x2 I2 L2 => ((x2 = 0 → ((x2 = 1 → dd_Rn d m_X4_advance (101, [.ref k, .int 1], [], sM Ln (dd_u (dd_u I2 k (upd (I2 k) 2 x2)) k (upd (upd (I2 k) 2 x2) 4 ((I2 k 3) + 0))) L2 c s) Q) ∧ (¬ (x2 = 1) → ((x2 = 2 → dd_Rn d m_X4_advance (101, [.ref k, .int 1], [], sM Ln (dd_u (dd_u I2 k (upd (I2 k) 2 x2)) k (upd (upd (I2 k) 2 x2) 4 ((I2 k 3) + 0))) L2 c s) Q) ∧ (¬ (x2 = 2) → dd_Rn d m_X4_advance (101, [.ref k, .int 0], [], sM Ln (dd_u (dd_u I2 k (upd (I2 k) 2 x2)) k (upd (upd (I2 k) 2 x2) 4 ((I2 k 3) + 0))) L2 c s) Q))))) ∧ (¬ (x2 = 0) → ((x2 = 1 → dd_Rn d m_X4_advance (101, [.ref k, .int 1], [], sM Ln (dd_u (dd_u I2 k (upd (I2 k) 2 x2)) k (upd (upd (I2 k) 2 x2) 4 ((I2 k 3) + 1))) L2 c s) Q) ∧ (¬ (x2 = 1) → ((x2 = 2 → dd_Rn d m_X4_advance (101, [.ref k, .int 1], [], sM Ln (dd_u (dd_u I2 k (upd (I2 k) 2 x2)) k (upd (upd (I2 k) 2 x2) 4 ((I2 k 3) + 1))) L2 c s) Q) ∧ (¬ (x2 = 2) → dd_Rn d m_X4_advance (101, [.ref k, .int 0], [], sM Ln (dd_u (dd_u I2 k (upd (I2 k) 2 x2)) k (upd (upd (I2 k) 2 x2) 4 ((I2 k 3) + 1))) L2 c s) Q)))))))))))))) : dd_Rn d m_X4_advance (8, [.ref k, .null], [], sM Ln I L c s) Q := by
  obtain ⟨e, rfl⟩ : ∃ e, d = e + 16 := ⟨d - 16, by omega⟩
  rcases hk with rfl | rfl
  · refine dd_Rn.ite 4 (c := I 130 1 ≤ I 130 3) (A := (46, [.ref 130, .null], [], sM Ln I L c s)) (B := (19, [.ref 130, .null], [], sM Ln I L c s)) rfl (fun hc => ?_) (fun hc => ?_) (by omega)
    · have h := h.1 hc
      refine dd_Rn.cI 4 (pc := 52) (ls := [.ref 130, .null]) (st := [.int (I 130 3), .ref 130, .ref 130]) (x := m_X4_kindAt) (as := [.ref 130, .int (I 130 3)]) (rest := [.ref 130]) rfl rfl rfl rfl h ?_
      intro x1 I1 L1 h
      show dd_Rn (e + 16) m_X4_advance (55, [.ref 130, .null], [.int x1, .ref 130], sM Ln I1 L1 c s) _
      refine dd_Rn.ite 6 (c := x1 = 0) (A := (70, [.ref 130, .null], [.int (I1 130 3), .ref 130], sM Ln (dd_u I1 130 (upd (I1 130) 2 x1)) L1 c s)) (B := (74, [.ref 130, .null], [.int (I1 130 3), .ref 130], sM Ln (dd_u I1 130 (upd (I1 130) 2 x1)) L1 c s)) rfl (fun hc => ?_) (fun hc => ?_) (by omega)
      · have h := h.1 hc
        refine dd_Rn.ite 7 (c := x1 = 1) (A := (95, [.ref 130, .null], [], sM Ln (dd_u (dd_u I1 130 (upd (I1 130) 2 x1)) 130 (upd (upd (I1 130) 2 x1) 4 ((I1 130 3) + 0))) L1 c s)) (B := (87, [.ref 130, .null], [], sM Ln (dd_u (dd_u I1 130 (upd (I1 130) 2 x1)) 130 (upd (upd (I1 130) 2 x1) 4 ((I1 130 3) + 0))) L1 c s)) rfl (fun hc => ?_) (fun hc => ?_) (by omega)
        · have h := h.1 hc
          exact dd_Rn.go 3 (cf' := (101, [.ref 130, .int 1], [], sM Ln (dd_u (dd_u I1 130 (upd (I1 130) 2 x1)) 130 (upd (upd (I1 130) 2 x1) 4 ((I1 130 3) + 0))) L1 c s)) rfl h (by omega)
        · have h := h.2 hc
          refine dd_Rn.ite 3 (c := x1 = 2) (A := (95, [.ref 130, .null], [], sM Ln (dd_u (dd_u I1 130 (upd (I1 130) 2 x1)) 130 (upd (upd (I1 130) 2 x1) 4 ((I1 130 3) + 0))) L1 c s)) (B := (99, [.ref 130, .null], [], sM Ln (dd_u (dd_u I1 130 (upd (I1 130) 2 x1)) 130 (upd (upd (I1 130) 2 x1) 4 ((I1 130 3) + 0))) L1 c s)) rfl (fun hc => ?_) (fun hc => ?_) (by omega)
          · have h := h.1 hc
            exact dd_Rn.go 3 (cf' := (101, [.ref 130, .int 1], [], sM Ln (dd_u (dd_u I1 130 (upd (I1 130) 2 x1)) 130 (upd (upd (I1 130) 2 x1) 4 ((I1 130 3) + 0))) L1 c s)) rfl h (by omega)
          · have h := h.2 hc
            exact dd_Rn.go 2 (cf' := (101, [.ref 130, .int 0], [], sM Ln (dd_u (dd_u I1 130 (upd (I1 130) 2 x1)) 130 (upd (upd (I1 130) 2 x1) 4 ((I1 130 3) + 0))) L1 c s)) rfl h (by omega)
      · have h := h.2 hc
        refine dd_Rn.ite 6 (c := x1 = 1) (A := (95, [.ref 130, .null], [], sM Ln (dd_u (dd_u I1 130 (upd (I1 130) 2 x1)) 130 (upd (upd (I1 130) 2 x1) 4 ((I1 130 3) + 1))) L1 c s)) (B := (87, [.ref 130, .null], [], sM Ln (dd_u (dd_u I1 130 (upd (I1 130) 2 x1)) 130 (upd (upd (I1 130) 2 x1) 4 ((I1 130 3) + 1))) L1 c s)) rfl (fun hc => ?_) (fun hc => ?_) (by omega)
        · have h := h.1 hc
          exact dd_Rn.go 3 (cf' := (101, [.ref 130, .int 1], [], sM Ln (dd_u (dd_u I1 130 (upd (I1 130) 2 x1)) 130 (upd (upd (I1 130) 2 x1) 4 ((I1 130 3) + 1))) L1 c s)) rfl h (by omega)
        · have h := h.2 hc
          refine dd_Rn.ite 3 (c := x1 = 2) (A := (95, [.ref 130, .null], [], sM Ln (dd_u (dd_u I1 130 (upd (I1 130) 2 x1)) 130 (upd (upd (I1 130) 2 x1) 4 ((I1 130 3) + 1))) L1 c s)) (B := (99, [.ref 130, .null], [], sM Ln (dd_u (dd_u I1 130 (upd (I1 130) 2 x1)) 130 (upd (upd (I1 130) 2 x1) 4 ((I1 130 3) + 1))) L1 c s)) rfl (fun hc => ?_) (fun hc => ?_) (by omega)
          · have h := h.1 hc
            exact dd_Rn.go 3 (cf' := (101, [.ref 130, .int 1], [], sM Ln (dd_u (dd_u I1 130 (upd (I1 130) 2 x1)) 130 (upd (upd (I1 130) 2 x1) 4 ((I1 130 3) + 1))) L1 c s)) rfl h (by omega)
          · have h := h.2 hc
            exact dd_Rn.go 2 (cf' := (101, [.ref 130, .int 0], [], sM Ln (dd_u (dd_u I1 130 (upd (I1 130) 2 x1)) 130 (upd (upd (I1 130) 2 x1) 4 ((I1 130 3) + 1))) L1 c s)) rfl h (by omega)
    · have h := h.2 hc
      obtain ⟨hc, h⟩ := h
      refine dd_Rn.go 4 (cf' := (27, [.ref 130, .null], [.int (I 130 3), .ref 129], sM Ln I L c s)) rfl ?_ (by omega)
      refine dd_Rn.ci (fun j0 => (27, [.ref 130, .null], [.int j0, .ref 129], sM Ln I L c s)) (fun j0 => (28, [.ref 130, .null], [.int (I 129 (tn j0))], sM Ln I L c s)) (fun j0 => 0 ≤ j0 ∧ tn j0 < 400) (I 130 3) (fun j0 hc h => dd_Rn.chk 0 (c := 0 ≤ j0 ∧ tn j0 < 400) (A := (28, [.ref 130, .null], [.int (I 129 (tn j0))], sM Ln I L c s)) rfl hc h (by omega)) hc ?_
      refine dd_Rn.se (cf := (28, [.ref 130, .null], [.int (I 129 (tn (I 130 3)))], sM Ln I L c s)) ?_
      refine dd_Rn.ite 1 (c := I 129 (tn (I 130 3)) = 32) (A := (33, [.ref 130, .null], [], sM Ln I L c s)) (B := (46, [.ref 130, .null], [], sM Ln I L c s)) rfl (fun hc => ?_) (fun hc => ?_) (by omega)
      · have h := h.1 hc
        exact dd_Rn.go 7 (cf' := (8, [.ref 130, .null], [], sM Ln (dd_u I 130 (upd (I 130) 3 ((I 130 3) + 1))) L c s)) rfl h (by omega)
      · have h := h.2 hc
        refine dd_Rn.cI 4 (pc := 52) (ls := [.ref 130, .null]) (st := [.int (I 130 3), .ref 130, .ref 130]) (x := m_X4_kindAt) (as := [.ref 130, .int (I 130 3)]) (rest := [.ref 130]) rfl rfl rfl rfl h ?_
        intro x2 I2 L2 h
        show dd_Rn (e + 16) m_X4_advance (55, [.ref 130, .null], [.int x2, .ref 130], sM Ln I2 L2 c s) _
        refine dd_Rn.ite 6 (c := x2 = 0) (A := (70, [.ref 130, .null], [.int (I2 130 3), .ref 130], sM Ln (dd_u I2 130 (upd (I2 130) 2 x2)) L2 c s)) (B := (74, [.ref 130, .null], [.int (I2 130 3), .ref 130], sM Ln (dd_u I2 130 (upd (I2 130) 2 x2)) L2 c s)) rfl (fun hc => ?_) (fun hc => ?_) (by omega)
        · have h := h.1 hc
          refine dd_Rn.ite 7 (c := x2 = 1) (A := (95, [.ref 130, .null], [], sM Ln (dd_u (dd_u I2 130 (upd (I2 130) 2 x2)) 130 (upd (upd (I2 130) 2 x2) 4 ((I2 130 3) + 0))) L2 c s)) (B := (87, [.ref 130, .null], [], sM Ln (dd_u (dd_u I2 130 (upd (I2 130) 2 x2)) 130 (upd (upd (I2 130) 2 x2) 4 ((I2 130 3) + 0))) L2 c s)) rfl (fun hc => ?_) (fun hc => ?_) (by omega)
          · have h := h.1 hc
            exact dd_Rn.go 3 (cf' := (101, [.ref 130, .int 1], [], sM Ln (dd_u (dd_u I2 130 (upd (I2 130) 2 x2)) 130 (upd (upd (I2 130) 2 x2) 4 ((I2 130 3) + 0))) L2 c s)) rfl h (by omega)
          · have h := h.2 hc
            refine dd_Rn.ite 3 (c := x2 = 2) (A := (95, [.ref 130, .null], [], sM Ln (dd_u (dd_u I2 130 (upd (I2 130) 2 x2)) 130 (upd (upd (I2 130) 2 x2) 4 ((I2 130 3) + 0))) L2 c s)) (B := (99, [.ref 130, .null], [], sM Ln (dd_u (dd_u I2 130 (upd (I2 130) 2 x2)) 130 (upd (upd (I2 130) 2 x2) 4 ((I2 130 3) + 0))) L2 c s)) rfl (fun hc => ?_) (fun hc => ?_) (by omega)
            · have h := h.1 hc
              exact dd_Rn.go 3 (cf' := (101, [.ref 130, .int 1], [], sM Ln (dd_u (dd_u I2 130 (upd (I2 130) 2 x2)) 130 (upd (upd (I2 130) 2 x2) 4 ((I2 130 3) + 0))) L2 c s)) rfl h (by omega)
            · have h := h.2 hc
              exact dd_Rn.go 2 (cf' := (101, [.ref 130, .int 0], [], sM Ln (dd_u (dd_u I2 130 (upd (I2 130) 2 x2)) 130 (upd (upd (I2 130) 2 x2) 4 ((I2 130 3) + 0))) L2 c s)) rfl h (by omega)
        · have h := h.2 hc
          refine dd_Rn.ite 6 (c := x2 = 1) (A := (95, [.ref 130, .null], [], sM Ln (dd_u (dd_u I2 130 (upd (I2 130) 2 x2)) 130 (upd (upd (I2 130) 2 x2) 4 ((I2 130 3) + 1))) L2 c s)) (B := (87, [.ref 130, .null], [], sM Ln (dd_u (dd_u I2 130 (upd (I2 130) 2 x2)) 130 (upd (upd (I2 130) 2 x2) 4 ((I2 130 3) + 1))) L2 c s)) rfl (fun hc => ?_) (fun hc => ?_) (by omega)
          · have h := h.1 hc
            exact dd_Rn.go 3 (cf' := (101, [.ref 130, .int 1], [], sM Ln (dd_u (dd_u I2 130 (upd (I2 130) 2 x2)) 130 (upd (upd (I2 130) 2 x2) 4 ((I2 130 3) + 1))) L2 c s)) rfl h (by omega)
          · have h := h.2 hc
            refine dd_Rn.ite 3 (c := x2 = 2) (A := (95, [.ref 130, .null], [], sM Ln (dd_u (dd_u I2 130 (upd (I2 130) 2 x2)) 130 (upd (upd (I2 130) 2 x2) 4 ((I2 130 3) + 1))) L2 c s)) (B := (99, [.ref 130, .null], [], sM Ln (dd_u (dd_u I2 130 (upd (I2 130) 2 x2)) 130 (upd (upd (I2 130) 2 x2) 4 ((I2 130 3) + 1))) L2 c s)) rfl (fun hc => ?_) (fun hc => ?_) (by omega)
            · have h := h.1 hc
              exact dd_Rn.go 3 (cf' := (101, [.ref 130, .int 1], [], sM Ln (dd_u (dd_u I2 130 (upd (I2 130) 2 x2)) 130 (upd (upd (I2 130) 2 x2) 4 ((I2 130 3) + 1))) L2 c s)) rfl h (by omega)
            · have h := h.2 hc
              exact dd_Rn.go 2 (cf' := (101, [.ref 130, .int 0], [], sM Ln (dd_u (dd_u I2 130 (upd (I2 130) 2 x2)) 130 (upd (upd (I2 130) 2 x2) 4 ((I2 130 3) + 1))) L2 c s)) rfl h (by omega)
  · refine dd_Rn.ite 4 (c := I 131 1 ≤ I 131 3) (A := (46, [.ref 131, .null], [], sM Ln I L c s)) (B := (19, [.ref 131, .null], [], sM Ln I L c s)) rfl (fun hc => ?_) (fun hc => ?_) (by omega)
    · have h := h.1 hc
      refine dd_Rn.cI 4 (pc := 52) (ls := [.ref 131, .null]) (st := [.int (I 131 3), .ref 131, .ref 131]) (x := m_X4_kindAt) (as := [.ref 131, .int (I 131 3)]) (rest := [.ref 131]) rfl rfl rfl rfl h ?_
      intro x1 I1 L1 h
      show dd_Rn (e + 16) m_X4_advance (55, [.ref 131, .null], [.int x1, .ref 131], sM Ln I1 L1 c s) _
      refine dd_Rn.ite 6 (c := x1 = 0) (A := (70, [.ref 131, .null], [.int (I1 131 3), .ref 131], sM Ln (dd_u I1 131 (upd (I1 131) 2 x1)) L1 c s)) (B := (74, [.ref 131, .null], [.int (I1 131 3), .ref 131], sM Ln (dd_u I1 131 (upd (I1 131) 2 x1)) L1 c s)) rfl (fun hc => ?_) (fun hc => ?_) (by omega)
      · have h := h.1 hc
        refine dd_Rn.ite 7 (c := x1 = 1) (A := (95, [.ref 131, .null], [], sM Ln (dd_u (dd_u I1 131 (upd (I1 131) 2 x1)) 131 (upd (upd (I1 131) 2 x1) 4 ((I1 131 3) + 0))) L1 c s)) (B := (87, [.ref 131, .null], [], sM Ln (dd_u (dd_u I1 131 (upd (I1 131) 2 x1)) 131 (upd (upd (I1 131) 2 x1) 4 ((I1 131 3) + 0))) L1 c s)) rfl (fun hc => ?_) (fun hc => ?_) (by omega)
        · have h := h.1 hc
          exact dd_Rn.go 3 (cf' := (101, [.ref 131, .int 1], [], sM Ln (dd_u (dd_u I1 131 (upd (I1 131) 2 x1)) 131 (upd (upd (I1 131) 2 x1) 4 ((I1 131 3) + 0))) L1 c s)) rfl h (by omega)
        · have h := h.2 hc
          refine dd_Rn.ite 3 (c := x1 = 2) (A := (95, [.ref 131, .null], [], sM Ln (dd_u (dd_u I1 131 (upd (I1 131) 2 x1)) 131 (upd (upd (I1 131) 2 x1) 4 ((I1 131 3) + 0))) L1 c s)) (B := (99, [.ref 131, .null], [], sM Ln (dd_u (dd_u I1 131 (upd (I1 131) 2 x1)) 131 (upd (upd (I1 131) 2 x1) 4 ((I1 131 3) + 0))) L1 c s)) rfl (fun hc => ?_) (fun hc => ?_) (by omega)
          · have h := h.1 hc
            exact dd_Rn.go 3 (cf' := (101, [.ref 131, .int 1], [], sM Ln (dd_u (dd_u I1 131 (upd (I1 131) 2 x1)) 131 (upd (upd (I1 131) 2 x1) 4 ((I1 131 3) + 0))) L1 c s)) rfl h (by omega)
          · have h := h.2 hc
            exact dd_Rn.go 2 (cf' := (101, [.ref 131, .int 0], [], sM Ln (dd_u (dd_u I1 131 (upd (I1 131) 2 x1)) 131 (upd (upd (I1 131) 2 x1) 4 ((I1 131 3) + 0))) L1 c s)) rfl h (by omega)
      · have h := h.2 hc
        refine dd_Rn.ite 6 (c := x1 = 1) (A := (95, [.ref 131, .null], [], sM Ln (dd_u (dd_u I1 131 (upd (I1 131) 2 x1)) 131 (upd (upd (I1 131) 2 x1) 4 ((I1 131 3) + 1))) L1 c s)) (B := (87, [.ref 131, .null], [], sM Ln (dd_u (dd_u I1 131 (upd (I1 131) 2 x1)) 131 (upd (upd (I1 131) 2 x1) 4 ((I1 131 3) + 1))) L1 c s)) rfl (fun hc => ?_) (fun hc => ?_) (by omega)
        · have h := h.1 hc
          exact dd_Rn.go 3 (cf' := (101, [.ref 131, .int 1], [], sM Ln (dd_u (dd_u I1 131 (upd (I1 131) 2 x1)) 131 (upd (upd (I1 131) 2 x1) 4 ((I1 131 3) + 1))) L1 c s)) rfl h (by omega)
        · have h := h.2 hc
          refine dd_Rn.ite 3 (c := x1 = 2) (A := (95, [.ref 131, .null], [], sM Ln (dd_u (dd_u I1 131 (upd (I1 131) 2 x1)) 131 (upd (upd (I1 131) 2 x1) 4 ((I1 131 3) + 1))) L1 c s)) (B := (99, [.ref 131, .null], [], sM Ln (dd_u (dd_u I1 131 (upd (I1 131) 2 x1)) 131 (upd (upd (I1 131) 2 x1) 4 ((I1 131 3) + 1))) L1 c s)) rfl (fun hc => ?_) (fun hc => ?_) (by omega)
          · have h := h.1 hc
            exact dd_Rn.go 3 (cf' := (101, [.ref 131, .int 1], [], sM Ln (dd_u (dd_u I1 131 (upd (I1 131) 2 x1)) 131 (upd (upd (I1 131) 2 x1) 4 ((I1 131 3) + 1))) L1 c s)) rfl h (by omega)
          · have h := h.2 hc
            exact dd_Rn.go 2 (cf' := (101, [.ref 131, .int 0], [], sM Ln (dd_u (dd_u I1 131 (upd (I1 131) 2 x1)) 131 (upd (upd (I1 131) 2 x1) 4 ((I1 131 3) + 1))) L1 c s)) rfl h (by omega)
    · have h := h.2 hc
      obtain ⟨hc, h⟩ := h
      refine dd_Rn.go 4 (cf' := (27, [.ref 131, .null], [.int (I 131 3), .ref 129], sM Ln I L c s)) rfl ?_ (by omega)
      refine dd_Rn.ci (fun j0 => (27, [.ref 131, .null], [.int j0, .ref 129], sM Ln I L c s)) (fun j0 => (28, [.ref 131, .null], [.int (I 129 (tn j0))], sM Ln I L c s)) (fun j0 => 0 ≤ j0 ∧ tn j0 < 400) (I 131 3) (fun j0 hc h => dd_Rn.chk 0 (c := 0 ≤ j0 ∧ tn j0 < 400) (A := (28, [.ref 131, .null], [.int (I 129 (tn j0))], sM Ln I L c s)) rfl hc h (by omega)) hc ?_
      refine dd_Rn.se (cf := (28, [.ref 131, .null], [.int (I 129 (tn (I 131 3)))], sM Ln I L c s)) ?_
      refine dd_Rn.ite 1 (c := I 129 (tn (I 131 3)) = 32) (A := (33, [.ref 131, .null], [], sM Ln I L c s)) (B := (46, [.ref 131, .null], [], sM Ln I L c s)) rfl (fun hc => ?_) (fun hc => ?_) (by omega)
      · have h := h.1 hc
        exact dd_Rn.go 7 (cf' := (8, [.ref 131, .null], [], sM Ln (dd_u I 131 (upd (I 131) 3 ((I 131 3) + 1))) L c s)) rfl h (by omega)
      · have h := h.2 hc
        refine dd_Rn.cI 4 (pc := 52) (ls := [.ref 131, .null]) (st := [.int (I 131 3), .ref 131, .ref 131]) (x := m_X4_kindAt) (as := [.ref 131, .int (I 131 3)]) (rest := [.ref 131]) rfl rfl rfl rfl h ?_
        intro x2 I2 L2 h
        show dd_Rn (e + 16) m_X4_advance (55, [.ref 131, .null], [.int x2, .ref 131], sM Ln I2 L2 c s) _
        refine dd_Rn.ite 6 (c := x2 = 0) (A := (70, [.ref 131, .null], [.int (I2 131 3), .ref 131], sM Ln (dd_u I2 131 (upd (I2 131) 2 x2)) L2 c s)) (B := (74, [.ref 131, .null], [.int (I2 131 3), .ref 131], sM Ln (dd_u I2 131 (upd (I2 131) 2 x2)) L2 c s)) rfl (fun hc => ?_) (fun hc => ?_) (by omega)
        · have h := h.1 hc
          refine dd_Rn.ite 7 (c := x2 = 1) (A := (95, [.ref 131, .null], [], sM Ln (dd_u (dd_u I2 131 (upd (I2 131) 2 x2)) 131 (upd (upd (I2 131) 2 x2) 4 ((I2 131 3) + 0))) L2 c s)) (B := (87, [.ref 131, .null], [], sM Ln (dd_u (dd_u I2 131 (upd (I2 131) 2 x2)) 131 (upd (upd (I2 131) 2 x2) 4 ((I2 131 3) + 0))) L2 c s)) rfl (fun hc => ?_) (fun hc => ?_) (by omega)
          · have h := h.1 hc
            exact dd_Rn.go 3 (cf' := (101, [.ref 131, .int 1], [], sM Ln (dd_u (dd_u I2 131 (upd (I2 131) 2 x2)) 131 (upd (upd (I2 131) 2 x2) 4 ((I2 131 3) + 0))) L2 c s)) rfl h (by omega)
          · have h := h.2 hc
            refine dd_Rn.ite 3 (c := x2 = 2) (A := (95, [.ref 131, .null], [], sM Ln (dd_u (dd_u I2 131 (upd (I2 131) 2 x2)) 131 (upd (upd (I2 131) 2 x2) 4 ((I2 131 3) + 0))) L2 c s)) (B := (99, [.ref 131, .null], [], sM Ln (dd_u (dd_u I2 131 (upd (I2 131) 2 x2)) 131 (upd (upd (I2 131) 2 x2) 4 ((I2 131 3) + 0))) L2 c s)) rfl (fun hc => ?_) (fun hc => ?_) (by omega)
            · have h := h.1 hc
              exact dd_Rn.go 3 (cf' := (101, [.ref 131, .int 1], [], sM Ln (dd_u (dd_u I2 131 (upd (I2 131) 2 x2)) 131 (upd (upd (I2 131) 2 x2) 4 ((I2 131 3) + 0))) L2 c s)) rfl h (by omega)
            · have h := h.2 hc
              exact dd_Rn.go 2 (cf' := (101, [.ref 131, .int 0], [], sM Ln (dd_u (dd_u I2 131 (upd (I2 131) 2 x2)) 131 (upd (upd (I2 131) 2 x2) 4 ((I2 131 3) + 0))) L2 c s)) rfl h (by omega)
        · have h := h.2 hc
          refine dd_Rn.ite 6 (c := x2 = 1) (A := (95, [.ref 131, .null], [], sM Ln (dd_u (dd_u I2 131 (upd (I2 131) 2 x2)) 131 (upd (upd (I2 131) 2 x2) 4 ((I2 131 3) + 1))) L2 c s)) (B := (87, [.ref 131, .null], [], sM Ln (dd_u (dd_u I2 131 (upd (I2 131) 2 x2)) 131 (upd (upd (I2 131) 2 x2) 4 ((I2 131 3) + 1))) L2 c s)) rfl (fun hc => ?_) (fun hc => ?_) (by omega)
          · have h := h.1 hc
            exact dd_Rn.go 3 (cf' := (101, [.ref 131, .int 1], [], sM Ln (dd_u (dd_u I2 131 (upd (I2 131) 2 x2)) 131 (upd (upd (I2 131) 2 x2) 4 ((I2 131 3) + 1))) L2 c s)) rfl h (by omega)
          · have h := h.2 hc
            refine dd_Rn.ite 3 (c := x2 = 2) (A := (95, [.ref 131, .null], [], sM Ln (dd_u (dd_u I2 131 (upd (I2 131) 2 x2)) 131 (upd (upd (I2 131) 2 x2) 4 ((I2 131 3) + 1))) L2 c s)) (B := (99, [.ref 131, .null], [], sM Ln (dd_u (dd_u I2 131 (upd (I2 131) 2 x2)) 131 (upd (upd (I2 131) 2 x2) 4 ((I2 131 3) + 1))) L2 c s)) rfl (fun hc => ?_) (fun hc => ?_) (by omega)
            · have h := h.1 hc
              exact dd_Rn.go 3 (cf' := (101, [.ref 131, .int 1], [], sM Ln (dd_u (dd_u I2 131 (upd (I2 131) 2 x2)) 131 (upd (upd (I2 131) 2 x2) 4 ((I2 131 3) + 1))) L2 c s)) rfl h (by omega)
            · have h := h.2 hc
              exact dd_Rn.go 2 (cf' := (101, [.ref 131, .int 0], [], sM Ln (dd_u (dd_u I2 131 (upd (I2 131) 2 x2)) 131 (upd (upd (I2 131) 2 x2) 4 ((I2 131 3) + 1))) L2 c s)) rfl h (by omega)

theorem w_X4_advance_101 {Ln d c s : Nat} {I : Nat → Nat → Int32} {L : Nat → Nat → Int64} {Q : dd_O → Prop} {k : Nat} {a1 : Int32} (hd : 28 ≤ d) (hk : k = 130 ∨ k = 131) (h : ((a1 = 0 → Q (none, .null, sM Ln I L c s)) ∧ (¬ (a1 = 0) → ((I k 1 ≤ I k 4 → Q (none, .null, sM Ln I L c s)) ∧ (¬ (I k 1 ≤ I k 4) → dd_Ev (d - 1) m_X4_kindAt [.ref k, .int (I k 4)] (sM Ln I L c s) (dd_RI Ln c s (fun x1 I1 L1 => ((x1 = I1 k 2 → dd_Rn d m_X4_advance (101, [.ref k, .int a1], [], sM Ln (dd_u I1 k (upd (I1 k) 4 ((I1 k 4) + 1))) L1 c s) Q) ∧ (¬ (x1 = I1 k 2) → Q (none, .null, sM Ln I1 L1 c s)))))))))) : dd_Rn d m_X4_advance (101, [.ref k, .int a1], [], sM Ln I L c s) Q := by
  obtain ⟨e, rfl⟩ : ∃ e, d = e + 16 := ⟨d - 16, by omega⟩
  rcases hk with rfl | rfl
  · refine dd_Rn.ite 1 (c := a1 = 0) (A := (144, [.ref 130, .int a1], [], sM Ln I L c s)) (B := (105, [.ref 130, .int a1], [], sM Ln I L c s)) rfl (fun hc => ?_) (fun hc => ?_) (by omega)
    · have h := h.1 hc
      exact dd_Rn.retK 0 (pc := 144) (ls := [.ref 130, .int a1]) (st := []) (M := sM Ln I L c s) (o := (none, .null, sM Ln I L c s)) rfl rfl h (by omega)
    · have h := h.2 hc
      refine dd_Rn.ite 4 (c := I 130 1 ≤ I 130 4) (A := (144, [.ref 130, .int a1], [], sM Ln I L c s)) (B := (116, [.ref 130, .int a1], [], sM Ln I L c s)) rfl (fun hc => ?_) (fun hc => ?_) (by omega)
      · have h := h.1 hc
        exact dd_Rn.retK 0 (pc := 144) (ls := [.ref 130, .int a1]) (st := []) (M := sM Ln I L c s) (o := (none, .null, sM Ln I L c s)) rfl rfl h (by omega)
      · have h := h.2 hc
        refine dd_Rn.cI 3 (pc := 121) (ls := [.ref 130, .int a1]) (st := [.int (I 130 4), .ref 130]) (x := m_X4_kindAt) (as := [.ref 130, .int (I 130 4)]) (rest := []) rfl rfl rfl rfl h ?_
        intro x1 I1 L1 h
        show dd_Rn (e + 16) m_X4_advance (124, [.ref 130, .int a1], [.int x1], sM Ln I1 L1 c s) _
        refine dd_Rn.ite 2 (c := x1 = I1 130 2) (A := (131, [.ref 130, .int a1], [], sM Ln I1 L1 c s)) (B := (144, [.ref 130, .int a1], [], sM Ln I1 L1 c s)) rfl (fun hc => ?_) (fun hc => ?_) (by omega)
        · have h := h.1 hc
          exact dd_Rn.go 7 (cf' := (101, [.ref 130, .int a1], [], sM Ln (dd_u I1 130 (upd (I1 130) 4 ((I1 130 4) + 1))) L1 c s)) rfl h (by omega)
        · have h := h.2 hc
          exact dd_Rn.retK 0 (pc := 144) (ls := [.ref 130, .int a1]) (st := []) (M := sM Ln I1 L1 c s) (o := (none, .null, sM Ln I1 L1 c s)) rfl rfl h (by omega)
  · refine dd_Rn.ite 1 (c := a1 = 0) (A := (144, [.ref 131, .int a1], [], sM Ln I L c s)) (B := (105, [.ref 131, .int a1], [], sM Ln I L c s)) rfl (fun hc => ?_) (fun hc => ?_) (by omega)
    · have h := h.1 hc
      exact dd_Rn.retK 0 (pc := 144) (ls := [.ref 131, .int a1]) (st := []) (M := sM Ln I L c s) (o := (none, .null, sM Ln I L c s)) rfl rfl h (by omega)
    · have h := h.2 hc
      refine dd_Rn.ite 4 (c := I 131 1 ≤ I 131 4) (A := (144, [.ref 131, .int a1], [], sM Ln I L c s)) (B := (116, [.ref 131, .int a1], [], sM Ln I L c s)) rfl (fun hc => ?_) (fun hc => ?_) (by omega)
      · have h := h.1 hc
        exact dd_Rn.retK 0 (pc := 144) (ls := [.ref 131, .int a1]) (st := []) (M := sM Ln I L c s) (o := (none, .null, sM Ln I L c s)) rfl rfl h (by omega)
      · have h := h.2 hc
        refine dd_Rn.cI 3 (pc := 121) (ls := [.ref 131, .int a1]) (st := [.int (I 131 4), .ref 131]) (x := m_X4_kindAt) (as := [.ref 131, .int (I 131 4)]) (rest := []) rfl rfl rfl rfl h ?_
        intro x1 I1 L1 h
        show dd_Rn (e + 16) m_X4_advance (124, [.ref 131, .int a1], [.int x1], sM Ln I1 L1 c s) _
        refine dd_Rn.ite 2 (c := x1 = I1 131 2) (A := (131, [.ref 131, .int a1], [], sM Ln I1 L1 c s)) (B := (144, [.ref 131, .int a1], [], sM Ln I1 L1 c s)) rfl (fun hc => ?_) (fun hc => ?_) (by omega)
        · have h := h.1 hc
          exact dd_Rn.go 7 (cf' := (101, [.ref 131, .int a1], [], sM Ln (dd_u I1 131 (upd (I1 131) 4 ((I1 131 4) + 1))) L1 c s)) rfl h (by omega)
        · have h := h.2 hc
          exact dd_Rn.retK 0 (pc := 144) (ls := [.ref 131, .int a1]) (st := []) (M := sM Ln I1 L1 c s) (o := (none, .null, sM Ln I1 L1 c s)) rfl rfl h (by omega)

theorem w_X4_kindAt_0 {Ln d c s : Nat} {I : Nat → Nat → Int32} {L : Nat → Nat → Int64} {Q : dd_O → Prop} {k : Nat} {a1 : Int32} (hd : 28 ≤ d) (hk : k = 130 ∨ k = 131) (h : ((a1 < I k 1 → ((0 ≤ a1 ∧ tn a1 < 400) ∧ ((I 129 (tn a1) < 97 → ((0 ≤ a1 ∧ tn a1 < 400) ∧ ((I 129 (tn a1) < 48 → Q (none, .int 3, sM Ln I L c s)) ∧ (¬ (I 129 (tn a1) < 48) → ((0 ≤ a1 ∧ tn a1 < 400) ∧ (((57 : Int32) < I 129 (tn a1) → Q (none, .int 3, sM Ln I L c s)) ∧ (¬ ((57 : Int32) < I 129 (tn a1)) → Q (none, .int 2, sM Ln I L c s)))))))) ∧ (¬ (I 129 (tn a1) < 97) → ((0 ≤ a1 ∧ tn a1 < 400) ∧ (((122 : Int32) < I 129 (tn a1) → ((0 ≤ a1 ∧ tn a1 < 400) ∧ ((I 129 (tn a1) < 48 → Q (none, .int 3, sM Ln I L c s)) ∧ (¬ (I 129 (tn a1) < 48) → ((0 ≤ a1 ∧ tn a1 < 400) ∧ (((57 : Int32) < I 129 (tn a1) → Q (none, .int 3, sM Ln I L c s)) ∧ (¬ ((57 : Int32) < I 129 (tn a1)) → Q (none, .int 2, sM Ln I L c s)))))))) ∧ (¬ ((122 : Int32) < I 129 (tn a1)) → Q (none, .int 1, sM Ln I L c s)))))))) ∧ (¬ (a1 < I k 1) → Q (none, .int 0, sM Ln I L c s)))) : dd_Ev d m_X4_kindAt [.ref k, .int a1] (sM Ln I L c s) Q := by
  obtain ⟨e, rfl⟩ : ∃ e, d = e + 16 := ⟨d - 16, by omega⟩
  show dd_Rn (e + 16) m_X4_kindAt (0, [.ref k, .int a1], [], sM Ln I L c s) Q
  rcases hk with rfl | rfl
  · refine dd_Rn.ite 3 (c := a1 < I 130 1) (A := (10, [.ref 130, .int a1], [], sM Ln I L c s)) (B := (8, [.ref 130, .int a1], [], sM Ln I L c s)) rfl (fun hc => ?_) (fun hc => ?_) (by omega)
    · have h := h.1 hc
      obtain ⟨hc, h⟩ := h
      refine dd_Rn.chk 3 (c := 0 ≤ a1 ∧ tn a1 < 400) (A := (16, [.ref 130, .int a1], [.int (I 129 (tn a1))], sM Ln I L c s)) rfl hc ?_ (by omega)
      refine dd_Rn.ite 1 (c := I 129 (tn a1) < 97) (A := (34, [.ref 130, .int a1], [], sM Ln I L c s)) (B := (21, [.ref 130, .int a1], [], sM Ln I L c s)) rfl (fun hc => ?_) (fun hc => ?_) (by omega)
      · have h := h.1 hc
        obtain ⟨hc, h⟩ := h
        refine dd_Rn.chk 3 (c := 0 ≤ a1 ∧ tn a1 < 400) (A := (40, [.ref 130, .int a1], [.int (I 129 (tn a1))], sM Ln I L c s)) rfl hc ?_ (by omega)
        refine dd_Rn.ite 1 (c := I 129 (tn a1) < 48) (A := (60, [.ref 130, .int a1], [], sM Ln I L c s)) (B := (45, [.ref 130, .int a1], [], sM Ln I L c s)) rfl (fun hc => ?_) (fun hc => ?_) (by omega)
        · have h := h.1 hc
          exact dd_Rn.retK 1 (pc := 61) (ls := [.ref 130, .int a1]) (st := [.int 3]) (M := sM Ln I L c s) (o := (none, .int 3, sM Ln I L c s)) rfl rfl h (by omega)
        · have h := h.2 hc
          obtain ⟨hc, h⟩ := h
          refine dd_Rn.chk 3 (c := 0 ≤ a1 ∧ tn a1 < 400) (A := (51, [.ref 130, .int a1], [.int (I 129 (tn a1))], sM Ln I L c s)) rfl hc ?_ (by omega)
          refine dd_Rn.ite 1 (c := (57 : Int32) < I 129 (tn a1)) (A := (60, [.ref 130, .int a1], [], sM Ln I L c s)) (B := (56, [.ref 130, .int a1], [], sM Ln I L c s)) rfl (fun hc => ?_) (fun hc => ?_) (by omega)
          · have h := h.1 hc
            exact dd_Rn.retK 1 (pc := 61) (ls := [.ref 130, .int a1]) (st := [.int 3]) (M := sM Ln I L c s) (o := (none, .int 3, sM Ln I L c s)) rfl rfl h (by omega)
          · have h := h.2 hc
            exact dd_Rn.retK 2 (pc := 61) (ls := [.ref 130, .int a1]) (st := [.int 2]) (M := sM Ln I L c s) (o := (none, .int 2, sM Ln I L c s)) rfl rfl h (by omega)
      · have h := h.2 hc
        obtain ⟨hc, h⟩ := h
        refine dd_Rn.chk 3 (c := 0 ≤ a1 ∧ tn a1 < 400) (A := (27, [.ref 130, .int a1], [.int (I 129 (tn a1))], sM Ln I L c s)) rfl hc ?_ (by omega)
        refine dd_Rn.ite 1 (c := (122 : Int32) < I 129 (tn a1)) (A := (34, [.ref 130, .int a1], [], sM Ln I L c s)) (B := (32, [.ref 130, .int a1], [], sM Ln I L c s)) rfl (fun hc => ?_) (fun hc => ?_) (by omega)
        · have h := h.1 hc
          obtain ⟨hc, h⟩ := h
          refine dd_Rn.chk 3 (c := 0 ≤ a1 ∧ tn a1 < 400) (A := (40, [.ref 130, .int a1], [.int (I 129 (tn a1))], sM Ln I L c s)) rfl hc ?_ (by omega)
          refine dd_Rn.ite 1 (c := I 129 (tn a1) < 48) (A := (60, [.ref 130, .int a1], [], sM Ln I L c s)) (B := (45, [.ref 130, .int a1], [], sM Ln I L c s)) rfl (fun hc => ?_) (fun hc => ?_) (by omega)
          · have h := h.1 hc
            exact dd_Rn.retK 1 (pc := 61) (ls := [.ref 130, .int a1]) (st := [.int 3]) (M := sM Ln I L c s) (o := (none, .int 3, sM Ln I L c s)) rfl rfl h (by omega)
          · have h := h.2 hc
            obtain ⟨hc, h⟩ := h
            refine dd_Rn.chk 3 (c := 0 ≤ a1 ∧ tn a1 < 400) (A := (51, [.ref 130, .int a1], [.int (I 129 (tn a1))], sM Ln I L c s)) rfl hc ?_ (by omega)
            refine dd_Rn.ite 1 (c := (57 : Int32) < I 129 (tn a1)) (A := (60, [.ref 130, .int a1], [], sM Ln I L c s)) (B := (56, [.ref 130, .int a1], [], sM Ln I L c s)) rfl (fun hc => ?_) (fun hc => ?_) (by omega)
            · have h := h.1 hc
              exact dd_Rn.retK 1 (pc := 61) (ls := [.ref 130, .int a1]) (st := [.int 3]) (M := sM Ln I L c s) (o := (none, .int 3, sM Ln I L c s)) rfl rfl h (by omega)
            · have h := h.2 hc
              exact dd_Rn.retK 2 (pc := 61) (ls := [.ref 130, .int a1]) (st := [.int 2]) (M := sM Ln I L c s) (o := (none, .int 2, sM Ln I L c s)) rfl rfl h (by omega)
        · have h := h.2 hc
          exact dd_Rn.retK 1 (pc := 33) (ls := [.ref 130, .int a1]) (st := [.int 1]) (M := sM Ln I L c s) (o := (none, .int 1, sM Ln I L c s)) rfl rfl h (by omega)
    · have h := h.2 hc
      exact dd_Rn.retK 1 (pc := 9) (ls := [.ref 130, .int a1]) (st := [.int 0]) (M := sM Ln I L c s) (o := (none, .int 0, sM Ln I L c s)) rfl rfl h (by omega)
  · refine dd_Rn.ite 3 (c := a1 < I 131 1) (A := (10, [.ref 131, .int a1], [], sM Ln I L c s)) (B := (8, [.ref 131, .int a1], [], sM Ln I L c s)) rfl (fun hc => ?_) (fun hc => ?_) (by omega)
    · have h := h.1 hc
      obtain ⟨hc, h⟩ := h
      refine dd_Rn.chk 3 (c := 0 ≤ a1 ∧ tn a1 < 400) (A := (16, [.ref 131, .int a1], [.int (I 129 (tn a1))], sM Ln I L c s)) rfl hc ?_ (by omega)
      refine dd_Rn.ite 1 (c := I 129 (tn a1) < 97) (A := (34, [.ref 131, .int a1], [], sM Ln I L c s)) (B := (21, [.ref 131, .int a1], [], sM Ln I L c s)) rfl (fun hc => ?_) (fun hc => ?_) (by omega)
      · have h := h.1 hc
        obtain ⟨hc, h⟩ := h
        refine dd_Rn.chk 3 (c := 0 ≤ a1 ∧ tn a1 < 400) (A := (40, [.ref 131, .int a1], [.int (I 129 (tn a1))], sM Ln I L c s)) rfl hc ?_ (by omega)
        refine dd_Rn.ite 1 (c := I 129 (tn a1) < 48) (A := (60, [.ref 131, .int a1], [], sM Ln I L c s)) (B := (45, [.ref 131, .int a1], [], sM Ln I L c s)) rfl (fun hc => ?_) (fun hc => ?_) (by omega)
        · have h := h.1 hc
          exact dd_Rn.retK 1 (pc := 61) (ls := [.ref 131, .int a1]) (st := [.int 3]) (M := sM Ln I L c s) (o := (none, .int 3, sM Ln I L c s)) rfl rfl h (by omega)
        · have h := h.2 hc
          obtain ⟨hc, h⟩ := h
          refine dd_Rn.chk 3 (c := 0 ≤ a1 ∧ tn a1 < 400) (A := (51, [.ref 131, .int a1], [.int (I 129 (tn a1))], sM Ln I L c s)) rfl hc ?_ (by omega)
          refine dd_Rn.ite 1 (c := (57 : Int32) < I 129 (tn a1)) (A := (60, [.ref 131, .int a1], [], sM Ln I L c s)) (B := (56, [.ref 131, .int a1], [], sM Ln I L c s)) rfl (fun hc => ?_) (fun hc => ?_) (by omega)
          · have h := h.1 hc
            exact dd_Rn.retK 1 (pc := 61) (ls := [.ref 131, .int a1]) (st := [.int 3]) (M := sM Ln I L c s) (o := (none, .int 3, sM Ln I L c s)) rfl rfl h (by omega)
          · have h := h.2 hc
            exact dd_Rn.retK 2 (pc := 61) (ls := [.ref 131, .int a1]) (st := [.int 2]) (M := sM Ln I L c s) (o := (none, .int 2, sM Ln I L c s)) rfl rfl h (by omega)
      · have h := h.2 hc
        obtain ⟨hc, h⟩ := h
        refine dd_Rn.chk 3 (c := 0 ≤ a1 ∧ tn a1 < 400) (A := (27, [.ref 131, .int a1], [.int (I 129 (tn a1))], sM Ln I L c s)) rfl hc ?_ (by omega)
        refine dd_Rn.ite 1 (c := (122 : Int32) < I 129 (tn a1)) (A := (34, [.ref 131, .int a1], [], sM Ln I L c s)) (B := (32, [.ref 131, .int a1], [], sM Ln I L c s)) rfl (fun hc => ?_) (fun hc => ?_) (by omega)
        · have h := h.1 hc
          obtain ⟨hc, h⟩ := h
          refine dd_Rn.chk 3 (c := 0 ≤ a1 ∧ tn a1 < 400) (A := (40, [.ref 131, .int a1], [.int (I 129 (tn a1))], sM Ln I L c s)) rfl hc ?_ (by omega)
          refine dd_Rn.ite 1 (c := I 129 (tn a1) < 48) (A := (60, [.ref 131, .int a1], [], sM Ln I L c s)) (B := (45, [.ref 131, .int a1], [], sM Ln I L c s)) rfl (fun hc => ?_) (fun hc => ?_) (by omega)
          · have h := h.1 hc
            exact dd_Rn.retK 1 (pc := 61) (ls := [.ref 131, .int a1]) (st := [.int 3]) (M := sM Ln I L c s) (o := (none, .int 3, sM Ln I L c s)) rfl rfl h (by omega)
          · have h := h.2 hc
            obtain ⟨hc, h⟩ := h
            refine dd_Rn.chk 3 (c := 0 ≤ a1 ∧ tn a1 < 400) (A := (51, [.ref 131, .int a1], [.int (I 129 (tn a1))], sM Ln I L c s)) rfl hc ?_ (by omega)
            refine dd_Rn.ite 1 (c := (57 : Int32) < I 129 (tn a1)) (A := (60, [.ref 131, .int a1], [], sM Ln I L c s)) (B := (56, [.ref 131, .int a1], [], sM Ln I L c s)) rfl (fun hc => ?_) (fun hc => ?_) (by omega)
            · have h := h.1 hc
              exact dd_Rn.retK 1 (pc := 61) (ls := [.ref 131, .int a1]) (st := [.int 3]) (M := sM Ln I L c s) (o := (none, .int 3, sM Ln I L c s)) rfl rfl h (by omega)
            · have h := h.2 hc
              exact dd_Rn.retK 2 (pc := 61) (ls := [.ref 131, .int a1]) (st := [.int 2]) (M := sM Ln I L c s) (o := (none, .int 2, sM Ln I L c s)) rfl rfl h (by omega)
        · have h := h.2 hc
          exact dd_Rn.retK 1 (pc := 33) (ls := [.ref 131, .int a1]) (st := [.int 1]) (M := sM Ln I L c s) (o := (none, .int 1, sM Ln I L c s)) rfl rfl h (by omega)
    · have h := h.2 hc
      exact dd_Rn.retK 1 (pc := 9) (ls := [.ref 131, .int a1]) (st := [.int 0]) (M := sM Ln I L c s) (o := (none, .int 0, sM Ln I L c s)) rfl rfl h (by omega)

theorem w_X4_refuse_0 {Ln d c s : Nat} {I : Nat → Nat → Int32} {L : Nat → Nat → Int64} {Q : dd_O → Prop} {k : Nat} (hd : 28 ≤ d) (hk : k = 130 ∨ k = 131) (h : Q (none, .int 0, sM Ln (dd_u I k (upd (I k) 5 (I k 3))) L c s)) : dd_Ev d m_X4_refuse [.ref k] (sM Ln I L c s) Q := by
  obtain ⟨e, rfl⟩ : ∃ e, d = e + 16 := ⟨d - 16, by omega⟩
  show dd_Rn (e + 16) m_X4_refuse (0, [.ref k], [], sM Ln I L c s) Q
  rcases hk with rfl | rfl
  · exact dd_Rn.retK 5 (pc := 9) (ls := [.ref 130]) (st := [.int 0]) (M := sM Ln (dd_u I 130 (upd (I 130) 5 (I 130 3))) L c s) (o := (none, .int 0, sM Ln (dd_u I 130 (upd (I 130) 5 (I 130 3))) L c s)) rfl rfl h (by omega)
  · exact dd_Rn.retK 5 (pc := 9) (ls := [.ref 131]) (st := [.int 0]) (M := sM Ln (dd_u I 131 (upd (I 131) 5 (I 131 3))) L c s) (o := (none, .int 0, sM Ln (dd_u I 131 (upd (I 131) 5 (I 131 3))) L c s)) rfl rfl h (by omega)

theorem w_X4_isWord_0 {Ln d c s : Nat} {I : Nat → Nat → Int32} {L : Nat → Nat → Int64} {Q : dd_O → Prop} {k : Nat} {w : Nat} (hd : 28 ≤ d) (hk : k = 130 ∨ k = 131) (hw : w < 71) (h : ((I k 2 = 1 → dd_Ev (d - 1) m_J0_length_8abf5 [.ref (1000000 + w)] (sM Ln I L c s) (dd_RI Ln c s (fun x1 I1 L1 => (((I k 4) - (I k 3) = x1 → dd_Rn d m_X4_isWord (28, [.ref k, .ref (1000000 + w), .int 0], [], sM Ln I1 L1 c s) Q) ∧ (¬ ((I k 4) - (I k 3) = x1) → Q (none, .int 0, sM Ln I1 L1 c s)))))) ∧ (¬ (I k 2 = 1) → Q (none, .int 0, sM Ln I L c s)))) : dd_Ev d m_X4_isWord [.ref k, .ref (1000000 + w)] (sM Ln I L c s) Q := by
  obtain ⟨e, rfl⟩ : ∃ e, d = e + 16 := ⟨d - 16, by omega⟩
  show dd_Rn (e + 16) m_X4_isWord (0, [.ref k, .ref (1000000 + w), .null], [], sM Ln I L c s) Q
  rcases hk with rfl | rfl
  · refine dd_Rn.ite 3 (c := I 130 2 = 1) (A := (8, [.ref 130, .ref (1000000 + w), .null], [], sM Ln I L c s)) (B := (24, [.ref 130, .ref (1000000 + w), .null], [], sM Ln I L c s)) rfl (fun hc => ?_) (fun hc => ?_) (by omega)
    · have h := h.1 hc
      refine dd_Rn.cI 6 (pc := 18) (ls := [.ref 130, .ref (1000000 + w), .null]) (st := [.ref (1000000 + w), .int ((I 130 4) - (I 130 3))]) (x := m_J0_length_8abf5) (as := [.ref (1000000 + w)]) (rest := [.int ((I 130 4) - (I 130 3))]) rfl rfl rfl (dd_clS hw rfl rfl rfl rfl rfl rfl) h ?_
      intro x1 I1 L1 h
      show dd_Rn (e + 16) m_X4_isWord (21, [.ref 130, .ref (1000000 + w), .null], [.int x1, .int ((I 130 4) - (I 130 3))], sM Ln I1 L1 c s) _
      refine dd_Rn.ite 0 (c := (I 130 4) - (I 130 3) = x1) (A := (26, [.ref 130, .ref (1000000 + w), .null], [], sM Ln I1 L1 c s)) (B := (24, [.ref 130, .ref (1000000 + w), .null], [], sM Ln I1 L1 c s)) rfl (fun hc => ?_) (fun hc => ?_) (by omega)
      · have h := h.1 hc
        exact dd_Rn.go 2 (cf' := (28, [.ref 130, .ref (1000000 + w), .int 0], [], sM Ln I1 L1 c s)) rfl h (by omega)
      · have h := h.2 hc
        exact dd_Rn.retK 1 (pc := 25) (ls := [.ref 130, .ref (1000000 + w), .null]) (st := [.int 0]) (M := sM Ln I1 L1 c s) (o := (none, .int 0, sM Ln I1 L1 c s)) rfl rfl h (by omega)
    · have h := h.2 hc
      exact dd_Rn.retK 1 (pc := 25) (ls := [.ref 130, .ref (1000000 + w), .null]) (st := [.int 0]) (M := sM Ln I L c s) (o := (none, .int 0, sM Ln I L c s)) rfl rfl h (by omega)
  · refine dd_Rn.ite 3 (c := I 131 2 = 1) (A := (8, [.ref 131, .ref (1000000 + w), .null], [], sM Ln I L c s)) (B := (24, [.ref 131, .ref (1000000 + w), .null], [], sM Ln I L c s)) rfl (fun hc => ?_) (fun hc => ?_) (by omega)
    · have h := h.1 hc
      refine dd_Rn.cI 6 (pc := 18) (ls := [.ref 131, .ref (1000000 + w), .null]) (st := [.ref (1000000 + w), .int ((I 131 4) - (I 131 3))]) (x := m_J0_length_8abf5) (as := [.ref (1000000 + w)]) (rest := [.int ((I 131 4) - (I 131 3))]) rfl rfl rfl (dd_clS hw rfl rfl rfl rfl rfl rfl) h ?_
      intro x1 I1 L1 h
      show dd_Rn (e + 16) m_X4_isWord (21, [.ref 131, .ref (1000000 + w), .null], [.int x1, .int ((I 131 4) - (I 131 3))], sM Ln I1 L1 c s) _
      refine dd_Rn.ite 0 (c := (I 131 4) - (I 131 3) = x1) (A := (26, [.ref 131, .ref (1000000 + w), .null], [], sM Ln I1 L1 c s)) (B := (24, [.ref 131, .ref (1000000 + w), .null], [], sM Ln I1 L1 c s)) rfl (fun hc => ?_) (fun hc => ?_) (by omega)
      · have h := h.1 hc
        exact dd_Rn.go 2 (cf' := (28, [.ref 131, .ref (1000000 + w), .int 0], [], sM Ln I1 L1 c s)) rfl h (by omega)
      · have h := h.2 hc
        exact dd_Rn.retK 1 (pc := 25) (ls := [.ref 131, .ref (1000000 + w), .null]) (st := [.int 0]) (M := sM Ln I1 L1 c s) (o := (none, .int 0, sM Ln I1 L1 c s)) rfl rfl h (by omega)
    · have h := h.2 hc
      exact dd_Rn.retK 1 (pc := 25) (ls := [.ref 131, .ref (1000000 + w), .null]) (st := [.int 0]) (M := sM Ln I L c s) (o := (none, .int 0, sM Ln I L c s)) rfl rfl h (by omega)

theorem w_X4_isWord_28 {Ln d c s : Nat} {I : Nat → Nat → Int32} {L : Nat → Nat → Int64} {Q : dd_O → Prop} {k : Nat} {w : Nat} {a2 : Int32} (hd : 28 ≤ d) (hk : k = 130 ∨ k = 131) (hw : w < 71) (h : dd_Ev (d - 1) m_J0_length_8abf5 [.ref (1000000 + w)] (sM Ln I L c s) (dd_RI Ln c s (fun x1 I1 L1 => ((x1 ≤ a2 → Q (none, .int 1, sM Ln I1 L1 c s)) ∧ (¬ (x1 ≤ a2) → ((0 ≤ (I1 k 3) + a2 ∧ tn ((I1 k 3) + a2) < 400) ∧ dd_Ev (d - 1) m_J0_charAt_5068e [.ref (1000000 + w), .int a2] (sM Ln I1 L1 c s) (dd_RI Ln c s (fun x2 I2 L2 => ((I1 129 (tn ((I1 k 3) + a2)) = x2 → dd_Rn d m_X4_isWord (28, [.ref k, .ref (1000000 + w), .int (a2 + 1)], [], sM Ln I2 L2 c s) Q) ∧ (¬ (I1 129 (tn ((I1 k 3) + a2)) = x2) → Q (none, .int 0, sM Ln I2 L2 c s))))))))))) : dd_Rn d m_X4_isWord (28, [.ref k, .ref (1000000 + w), .int a2], [], sM Ln I L c s) Q := by
  obtain ⟨e, rfl⟩ : ∃ e, d = e + 16 := ⟨d - 16, by omega⟩
  rcases hk with rfl | rfl
  · refine dd_Rn.cI 2 (pc := 30) (ls := [.ref 130, .ref (1000000 + w), .int a2]) (st := [.ref (1000000 + w), .int a2]) (x := m_J0_length_8abf5) (as := [.ref (1000000 + w)]) (rest := [.int a2]) rfl rfl rfl (dd_clS hw rfl rfl rfl rfl rfl rfl) h ?_
    intro x1 I1 L1 h
    show dd_Rn (e + 16) m_X4_isWord (33, [.ref 130, .ref (1000000 + w), .int a2], [.int x1, .int a2], sM Ln I1 L1 c s) _
    refine dd_Rn.ite 0 (c := x1 ≤ a2) (A := (63, [.ref 130, .ref (1000000 + w), .int a2], [], sM Ln I1 L1 c s)) (B := (36, [.ref 130, .ref (1000000 + w), .int a2], [], sM Ln I1 L1 c s)) rfl (fun hc => ?_) (fun hc => ?_) (by omega)
    · have h := h.1 hc
      exact dd_Rn.retK 1 (pc := 64) (ls := [.ref 130, .ref (1000000 + w), .int a2]) (st := [.int 1]) (M := sM Ln I1 L1 c s) (o := (none, .int 1, sM Ln I1 L1 c s)) rfl rfl h (by omega)
    · have h := h.2 hc
      obtain ⟨hc, h⟩ := h
      refine dd_Rn.go 6 (cf' := (46, [.ref 130, .ref (1000000 + w), .int a2], [.int ((I1 130 3) + a2), .ref 129], sM Ln I1 L1 c s)) rfl ?_ (by omega)
      refine dd_Rn.ci (fun j0 => (46, [.ref 130, .ref (1000000 + w), .int a2], [.int j0, .ref 129], sM Ln I1 L1 c s)) (fun j0 => (47, [.ref 130, .ref (1000000 + w), .int a2], [.int (I1 129 (tn j0))], sM Ln I1 L1 c s)) (fun j0 => 0 ≤ j0 ∧ tn j0 < 400) ((I1 130 3) + a2) (fun j0 hc h => dd_Rn.chk 0 (c := 0 ≤ j0 ∧ tn j0 < 400) (A := (47, [.ref 130, .ref (1000000 + w), .int a2], [.int (I1 129 (tn j0))], sM Ln I1 L1 c s)) rfl hc h (by omega)) hc ?_
      refine dd_Rn.se (cf := (47, [.ref 130, .ref (1000000 + w), .int a2], [.int (I1 129 (tn ((I1 130 3) + a2)))], sM Ln I1 L1 c s)) ?_
      refine dd_Rn.cI 2 (pc := 49) (ls := [.ref 130, .ref (1000000 + w), .int a2]) (st := [.int a2, .ref (1000000 + w), .int (I1 129 (tn ((I1 130 3) + a2)))]) (x := m_J0_charAt_5068e) (as := [.ref (1000000 + w), .int a2]) (rest := [.int (I1 129 (tn ((I1 130 3) + a2)))]) rfl rfl rfl (dd_clS hw rfl rfl rfl rfl rfl rfl) h ?_
      intro x2 I2 L2 h
      show dd_Rn (e + 16) m_X4_isWord (52, [.ref 130, .ref (1000000 + w), .int a2], [.int x2, .int (I1 129 (tn ((I1 130 3) + a2)))], sM Ln I2 L2 c s) _
      refine dd_Rn.ite 0 (c := I1 129 (tn ((I1 130 3) + a2)) = x2) (A := (57, [.ref 130, .ref (1000000 + w), .int a2], [], sM Ln I2 L2 c s)) (B := (55, [.ref 130, .ref (1000000 + w), .int a2], [], sM Ln I2 L2 c s)) rfl (fun hc => ?_) (fun hc => ?_) (by omega)
      · have h := h.1 hc
        exact dd_Rn.go 2 (cf' := (28, [.ref 130, .ref (1000000 + w), .int (a2 + 1)], [], sM Ln I2 L2 c s)) rfl h (by omega)
      · have h := h.2 hc
        exact dd_Rn.retK 1 (pc := 56) (ls := [.ref 130, .ref (1000000 + w), .int a2]) (st := [.int 0]) (M := sM Ln I2 L2 c s) (o := (none, .int 0, sM Ln I2 L2 c s)) rfl rfl h (by omega)
  · refine dd_Rn.cI 2 (pc := 30) (ls := [.ref 131, .ref (1000000 + w), .int a2]) (st := [.ref (1000000 + w), .int a2]) (x := m_J0_length_8abf5) (as := [.ref (1000000 + w)]) (rest := [.int a2]) rfl rfl rfl (dd_clS hw rfl rfl rfl rfl rfl rfl) h ?_
    intro x1 I1 L1 h
    show dd_Rn (e + 16) m_X4_isWord (33, [.ref 131, .ref (1000000 + w), .int a2], [.int x1, .int a2], sM Ln I1 L1 c s) _
    refine dd_Rn.ite 0 (c := x1 ≤ a2) (A := (63, [.ref 131, .ref (1000000 + w), .int a2], [], sM Ln I1 L1 c s)) (B := (36, [.ref 131, .ref (1000000 + w), .int a2], [], sM Ln I1 L1 c s)) rfl (fun hc => ?_) (fun hc => ?_) (by omega)
    · have h := h.1 hc
      exact dd_Rn.retK 1 (pc := 64) (ls := [.ref 131, .ref (1000000 + w), .int a2]) (st := [.int 1]) (M := sM Ln I1 L1 c s) (o := (none, .int 1, sM Ln I1 L1 c s)) rfl rfl h (by omega)
    · have h := h.2 hc
      obtain ⟨hc, h⟩ := h
      refine dd_Rn.go 6 (cf' := (46, [.ref 131, .ref (1000000 + w), .int a2], [.int ((I1 131 3) + a2), .ref 129], sM Ln I1 L1 c s)) rfl ?_ (by omega)
      refine dd_Rn.ci (fun j0 => (46, [.ref 131, .ref (1000000 + w), .int a2], [.int j0, .ref 129], sM Ln I1 L1 c s)) (fun j0 => (47, [.ref 131, .ref (1000000 + w), .int a2], [.int (I1 129 (tn j0))], sM Ln I1 L1 c s)) (fun j0 => 0 ≤ j0 ∧ tn j0 < 400) ((I1 131 3) + a2) (fun j0 hc h => dd_Rn.chk 0 (c := 0 ≤ j0 ∧ tn j0 < 400) (A := (47, [.ref 131, .ref (1000000 + w), .int a2], [.int (I1 129 (tn j0))], sM Ln I1 L1 c s)) rfl hc h (by omega)) hc ?_
      refine dd_Rn.se (cf := (47, [.ref 131, .ref (1000000 + w), .int a2], [.int (I1 129 (tn ((I1 131 3) + a2)))], sM Ln I1 L1 c s)) ?_
      refine dd_Rn.cI 2 (pc := 49) (ls := [.ref 131, .ref (1000000 + w), .int a2]) (st := [.int a2, .ref (1000000 + w), .int (I1 129 (tn ((I1 131 3) + a2)))]) (x := m_J0_charAt_5068e) (as := [.ref (1000000 + w), .int a2]) (rest := [.int (I1 129 (tn ((I1 131 3) + a2)))]) rfl rfl rfl (dd_clS hw rfl rfl rfl rfl rfl rfl) h ?_
      intro x2 I2 L2 h
      show dd_Rn (e + 16) m_X4_isWord (52, [.ref 131, .ref (1000000 + w), .int a2], [.int x2, .int (I1 129 (tn ((I1 131 3) + a2)))], sM Ln I2 L2 c s) _
      refine dd_Rn.ite 0 (c := I1 129 (tn ((I1 131 3) + a2)) = x2) (A := (57, [.ref 131, .ref (1000000 + w), .int a2], [], sM Ln I2 L2 c s)) (B := (55, [.ref 131, .ref (1000000 + w), .int a2], [], sM Ln I2 L2 c s)) rfl (fun hc => ?_) (fun hc => ?_) (by omega)
      · have h := h.1 hc
        exact dd_Rn.go 2 (cf' := (28, [.ref 131, .ref (1000000 + w), .int (a2 + 1)], [], sM Ln I2 L2 c s)) rfl h (by omega)
      · have h := h.2 hc
        exact dd_Rn.retK 1 (pc := 56) (ls := [.ref 131, .ref (1000000 + w), .int a2]) (st := [.int 0]) (M := sM Ln I2 L2 c s) (o := (none, .int 0, sM Ln I2 L2 c s)) rfl rfl h (by omega)

theorem w_X4_isSign_0 {Ln d c s : Nat} {I : Nat → Nat → Int32} {L : Nat → Nat → Int64} {Q : dd_O → Prop} {k : Nat} {a1 : Int32} (hd : 28 ≤ d) (hk : k = 130 ∨ k = 131) (h : ((I k 2 = 3 → ((0 ≤ I k 3 ∧ tn (I k 3) < 400) ∧ ((I 129 (tn (I k 3)) = a1 → Q (none, .int 1, sM Ln I L c s)) ∧ (¬ (I 129 (tn (I k 3)) = a1) → Q (none, .int 0, sM Ln I L c s))))) ∧ (¬ (I k 2 = 3) → Q (none, .int 0, sM Ln I L c s)))) : dd_Ev d m_X4_isSign [.ref k, .int a1] (sM Ln I L c s) Q := by
  obtain ⟨e, rfl⟩ : ∃ e, d = e + 16 := ⟨d - 16, by omega⟩
  show dd_Rn (e + 16) m_X4_isSign (0, [.ref k, .int a1], [], sM Ln I L c s) Q
  rcases hk with rfl | rfl
  · refine dd_Rn.ite 3 (c := I 130 2 = 3) (A := (8, [.ref 130, .int a1], [], sM Ln I L c s)) (B := (25, [.ref 130, .int a1], [], sM Ln I L c s)) rfl (fun hc => ?_) (fun hc => ?_) (by omega)
    · have h := h.1 hc
      obtain ⟨hc, h⟩ := h
      refine dd_Rn.go 4 (cf' := (16, [.ref 130, .int a1], [.int (I 130 3), .ref 129], sM Ln I L c s)) rfl ?_ (by omega)
      refine dd_Rn.ci (fun j0 => (16, [.ref 130, .int a1], [.int j0, .ref 129], sM Ln I L c s)) (fun j0 => (17, [.ref 130, .int a1], [.int (I 129 (tn j0))], sM Ln I L c s)) (fun j0 => 0 ≤ j0 ∧ tn j0 < 400) (I 130 3) (fun j0 hc h => dd_Rn.chk 0 (c := 0 ≤ j0 ∧ tn j0 < 400) (A := (17, [.ref 130, .int a1], [.int (I 129 (tn j0))], sM Ln I L c s)) rfl hc h (by omega)) hc ?_
      refine dd_Rn.se (cf := (17, [.ref 130, .int a1], [.int (I 129 (tn (I 130 3)))], sM Ln I L c s)) ?_
      refine dd_Rn.ite 1 (c := I 129 (tn (I 130 3)) = a1) (A := (21, [.ref 130, .int a1], [], sM Ln I L c s)) (B := (25, [.ref 130, .int a1], [], sM Ln I L c s)) rfl (fun hc => ?_) (fun hc => ?_) (by omega)
      · have h := h.1 hc
        exact dd_Rn.retK 2 (pc := 26) (ls := [.ref 130, .int a1]) (st := [.int 1]) (M := sM Ln I L c s) (o := (none, .int 1, sM Ln I L c s)) rfl rfl h (by omega)
      · have h := h.2 hc
        exact dd_Rn.retK 1 (pc := 26) (ls := [.ref 130, .int a1]) (st := [.int 0]) (M := sM Ln I L c s) (o := (none, .int 0, sM Ln I L c s)) rfl rfl h (by omega)
    · have h := h.2 hc
      exact dd_Rn.retK 1 (pc := 26) (ls := [.ref 130, .int a1]) (st := [.int 0]) (M := sM Ln I L c s) (o := (none, .int 0, sM Ln I L c s)) rfl rfl h (by omega)
  · refine dd_Rn.ite 3 (c := I 131 2 = 3) (A := (8, [.ref 131, .int a1], [], sM Ln I L c s)) (B := (25, [.ref 131, .int a1], [], sM Ln I L c s)) rfl (fun hc => ?_) (fun hc => ?_) (by omega)
    · have h := h.1 hc
      obtain ⟨hc, h⟩ := h
      refine dd_Rn.go 4 (cf' := (16, [.ref 131, .int a1], [.int (I 131 3), .ref 129], sM Ln I L c s)) rfl ?_ (by omega)
      refine dd_Rn.ci (fun j0 => (16, [.ref 131, .int a1], [.int j0, .ref 129], sM Ln I L c s)) (fun j0 => (17, [.ref 131, .int a1], [.int (I 129 (tn j0))], sM Ln I L c s)) (fun j0 => 0 ≤ j0 ∧ tn j0 < 400) (I 131 3) (fun j0 hc h => dd_Rn.chk 0 (c := 0 ≤ j0 ∧ tn j0 < 400) (A := (17, [.ref 131, .int a1], [.int (I 129 (tn j0))], sM Ln I L c s)) rfl hc h (by omega)) hc ?_
      refine dd_Rn.se (cf := (17, [.ref 131, .int a1], [.int (I 129 (tn (I 131 3)))], sM Ln I L c s)) ?_
      refine dd_Rn.ite 1 (c := I 129 (tn (I 131 3)) = a1) (A := (21, [.ref 131, .int a1], [], sM Ln I L c s)) (B := (25, [.ref 131, .int a1], [], sM Ln I L c s)) rfl (fun hc => ?_) (fun hc => ?_) (by omega)
      · have h := h.1 hc
        exact dd_Rn.retK 2 (pc := 26) (ls := [.ref 131, .int a1]) (st := [.int 1]) (M := sM Ln I L c s) (o := (none, .int 1, sM Ln I L c s)) rfl rfl h (by omega)
      · have h := h.2 hc
        exact dd_Rn.retK 1 (pc := 26) (ls := [.ref 131, .int a1]) (st := [.int 0]) (M := sM Ln I L c s) (o := (none, .int 0, sM Ln I L c s)) rfl rfl h (by omega)
    · have h := h.2 hc
      exact dd_Rn.retK 1 (pc := 26) (ls := [.ref 131, .int a1]) (st := [.int 0]) (M := sM Ln I L c s) (o := (none, .int 0, sM Ln I L c s)) rfl rfl h (by omega)

theorem w_X4_takeWord_0 {Ln d c s : Nat} {I : Nat → Nat → Int32} {L : Nat → Nat → Int64} {Q : dd_O → Prop} {k : Nat} {w : Nat} (hd : 28 ≤ d) (hk : k = 130 ∨ k = 131) (hw : w < 71) (h : dd_Ev (d - 1) m_X4_isWord [.ref k, .ref (1000000 + w)] (sM Ln I L c s) (dd_RI Ln c s (fun x1 I1 L1 => ((x1 = 0 → dd_Ev (d - 1) m_X4_refuse [.ref k] (sM Ln I1 L1 c s) (dd_RI Ln c s (fun x2 I2 L2 => ((x2 = 0 ∨ x2 = 1) ∧ Q (none, .int x2, sM Ln I2 L2 c s))))) ∧ (¬ (x1 = 0) → dd_Ev (d - 1) m_X4_advance [.ref k] (sM Ln I1 L1 c s) (dd_RV Ln c s (fun I3 L3 => Q (none, .int 1, sM Ln I3 L3 c s)))))))) : dd_Ev d m_X4_takeWord [.ref k, .ref (1000000 + w)] (sM Ln I L c s) Q := by
  obtain ⟨e, rfl⟩ : ∃ e, d = e + 16 := ⟨d - 16, by omega⟩
  show dd_Rn (e + 16) m_X4_takeWord (0, [.ref k, .ref (1000000 + w)], [], sM Ln I L c s) Q
  rcases hk with rfl | rfl
  · refine dd_Rn.cI 2 (pc := 2) (ls := [.ref 130, .ref (1000000 + w)]) (st := [.ref (1000000 + w), .ref 130]) (x := m_X4_isWord) (as := [.ref 130, .ref (1000000 + w)]) (rest := []) rfl rfl rfl rfl h ?_
    intro x1 I1 L1 h
    show dd_Rn (e + 16) m_X4_takeWord (5, [.ref 130, .ref (1000000 + w)], [.int x1], sM Ln I1 L1 c s) _
    refine dd_Rn.ite 0 (c := x1 = 0) (A := (8, [.ref 130, .ref (1000000 + w)], [], sM Ln I1 L1 c s)) (B := (13, [.ref 130, .ref (1000000 + w)], [], sM Ln I1 L1 c s)) rfl (fun hc => ?_) (fun hc => ?_) (by omega)
    · have h := h.1 hc
      refine dd_Rn.cI 1 (pc := 9) (ls := [.ref 130, .ref (1000000 + w)]) (st := [.ref 130]) (x := m_X4_refuse) (as := [.ref 130]) (rest := []) rfl rfl rfl rfl h ?_
      intro x2 I2 L2 h
      show dd_Rn (e + 16) m_X4_takeWord (12, [.ref 130, .ref (1000000 + w)], [.int x2], sM Ln I2 L2 c s) _
      obtain ⟨hc, h⟩ := h
      exact dd_Rn.retB 0 (cf' := (12, [.ref 130, .ref (1000000 + w)], [.int x2], sM Ln I2 L2 c s)) (v := x2) rfl rfl hc h (by omega)
    · have h := h.2 hc
      refine dd_Rn.cV 1 (pc := 14) (ls := [.ref 130, .ref (1000000 + w)]) (st := [.ref 130]) (x := m_X4_advance) (as := [.ref 130]) (rest := []) rfl rfl rfl rfl h ?_
      intro I3 L3 h
      show dd_Rn (e + 16) m_X4_takeWord (17, [.ref 130, .ref (1000000 + w)], [], sM Ln I3 L3 c s) _
      exact dd_Rn.retK 1 (pc := 18) (ls := [.ref 130, .ref (1000000 + w)]) (st := [.int 1]) (M := sM Ln I3 L3 c s) (o := (none, .int 1, sM Ln I3 L3 c s)) rfl rfl h (by omega)
  · refine dd_Rn.cI 2 (pc := 2) (ls := [.ref 131, .ref (1000000 + w)]) (st := [.ref (1000000 + w), .ref 131]) (x := m_X4_isWord) (as := [.ref 131, .ref (1000000 + w)]) (rest := []) rfl rfl rfl rfl h ?_
    intro x1 I1 L1 h
    show dd_Rn (e + 16) m_X4_takeWord (5, [.ref 131, .ref (1000000 + w)], [.int x1], sM Ln I1 L1 c s) _
    refine dd_Rn.ite 0 (c := x1 = 0) (A := (8, [.ref 131, .ref (1000000 + w)], [], sM Ln I1 L1 c s)) (B := (13, [.ref 131, .ref (1000000 + w)], [], sM Ln I1 L1 c s)) rfl (fun hc => ?_) (fun hc => ?_) (by omega)
    · have h := h.1 hc
      refine dd_Rn.cI 1 (pc := 9) (ls := [.ref 131, .ref (1000000 + w)]) (st := [.ref 131]) (x := m_X4_refuse) (as := [.ref 131]) (rest := []) rfl rfl rfl rfl h ?_
      intro x2 I2 L2 h
      show dd_Rn (e + 16) m_X4_takeWord (12, [.ref 131, .ref (1000000 + w)], [.int x2], sM Ln I2 L2 c s) _
      obtain ⟨hc, h⟩ := h
      exact dd_Rn.retB 0 (cf' := (12, [.ref 131, .ref (1000000 + w)], [.int x2], sM Ln I2 L2 c s)) (v := x2) rfl rfl hc h (by omega)
    · have h := h.2 hc
      refine dd_Rn.cV 1 (pc := 14) (ls := [.ref 131, .ref (1000000 + w)]) (st := [.ref 131]) (x := m_X4_advance) (as := [.ref 131]) (rest := []) rfl rfl rfl rfl h ?_
      intro I3 L3 h
      show dd_Rn (e + 16) m_X4_takeWord (17, [.ref 131, .ref (1000000 + w)], [], sM Ln I3 L3 c s) _
      exact dd_Rn.retK 1 (pc := 18) (ls := [.ref 131, .ref (1000000 + w)]) (st := [.int 1]) (M := sM Ln I3 L3 c s) (o := (none, .int 1, sM Ln I3 L3 c s)) rfl rfl h (by omega)

theorem w_X4_takeSign_0 {Ln d c s : Nat} {I : Nat → Nat → Int32} {L : Nat → Nat → Int64} {Q : dd_O → Prop} {k : Nat} {a1 : Int32} (hd : 28 ≤ d) (hk : k = 130 ∨ k = 131) (h : dd_Ev (d - 1) m_X4_isSign [.ref k, .int a1] (sM Ln I L c s) (dd_RI Ln c s (fun x1 I1 L1 => ((x1 = 0 → dd_Ev (d - 1) m_X4_refuse [.ref k] (sM Ln I1 L1 c s) (dd_RI Ln c s (fun x2 I2 L2 => ((x2 = 0 ∨ x2 = 1) ∧ Q (none, .int x2, sM Ln I2 L2 c s))))) ∧ (¬ (x1 = 0) → dd_Ev (d - 1) m_X4_advance [.ref k] (sM Ln I1 L1 c s) (dd_RV Ln c s (fun I3 L3 => Q (none, .int 1, sM Ln I3 L3 c s)))))))) : dd_Ev d m_X4_takeSign [.ref k, .int a1] (sM Ln I L c s) Q := by
  obtain ⟨e, rfl⟩ : ∃ e, d = e + 16 := ⟨d - 16, by omega⟩
  show dd_Rn (e + 16) m_X4_takeSign (0, [.ref k, .int a1], [], sM Ln I L c s) Q
  rcases hk with rfl | rfl
  · refine dd_Rn.cI 2 (pc := 2) (ls := [.ref 130, .int a1]) (st := [.int a1, .ref 130]) (x := m_X4_isSign) (as := [.ref 130, .int a1]) (rest := []) rfl rfl rfl rfl h ?_
    intro x1 I1 L1 h
    show dd_Rn (e + 16) m_X4_takeSign (5, [.ref 130, .int a1], [.int x1], sM Ln I1 L1 c s) _
    refine dd_Rn.ite 0 (c := x1 = 0) (A := (8, [.ref 130, .int a1], [], sM Ln I1 L1 c s)) (B := (13, [.ref 130, .int a1], [], sM Ln I1 L1 c s)) rfl (fun hc => ?_) (fun hc => ?_) (by omega)
    · have h := h.1 hc
      refine dd_Rn.cI 1 (pc := 9) (ls := [.ref 130, .int a1]) (st := [.ref 130]) (x := m_X4_refuse) (as := [.ref 130]) (rest := []) rfl rfl rfl rfl h ?_
      intro x2 I2 L2 h
      show dd_Rn (e + 16) m_X4_takeSign (12, [.ref 130, .int a1], [.int x2], sM Ln I2 L2 c s) _
      obtain ⟨hc, h⟩ := h
      exact dd_Rn.retB 0 (cf' := (12, [.ref 130, .int a1], [.int x2], sM Ln I2 L2 c s)) (v := x2) rfl rfl hc h (by omega)
    · have h := h.2 hc
      refine dd_Rn.cV 1 (pc := 14) (ls := [.ref 130, .int a1]) (st := [.ref 130]) (x := m_X4_advance) (as := [.ref 130]) (rest := []) rfl rfl rfl rfl h ?_
      intro I3 L3 h
      show dd_Rn (e + 16) m_X4_takeSign (17, [.ref 130, .int a1], [], sM Ln I3 L3 c s) _
      exact dd_Rn.retK 1 (pc := 18) (ls := [.ref 130, .int a1]) (st := [.int 1]) (M := sM Ln I3 L3 c s) (o := (none, .int 1, sM Ln I3 L3 c s)) rfl rfl h (by omega)
  · refine dd_Rn.cI 2 (pc := 2) (ls := [.ref 131, .int a1]) (st := [.int a1, .ref 131]) (x := m_X4_isSign) (as := [.ref 131, .int a1]) (rest := []) rfl rfl rfl rfl h ?_
    intro x1 I1 L1 h
    show dd_Rn (e + 16) m_X4_takeSign (5, [.ref 131, .int a1], [.int x1], sM Ln I1 L1 c s) _
    refine dd_Rn.ite 0 (c := x1 = 0) (A := (8, [.ref 131, .int a1], [], sM Ln I1 L1 c s)) (B := (13, [.ref 131, .int a1], [], sM Ln I1 L1 c s)) rfl (fun hc => ?_) (fun hc => ?_) (by omega)
    · have h := h.1 hc
      refine dd_Rn.cI 1 (pc := 9) (ls := [.ref 131, .int a1]) (st := [.ref 131]) (x := m_X4_refuse) (as := [.ref 131]) (rest := []) rfl rfl rfl rfl h ?_
      intro x2 I2 L2 h
      show dd_Rn (e + 16) m_X4_takeSign (12, [.ref 131, .int a1], [.int x2], sM Ln I2 L2 c s) _
      obtain ⟨hc, h⟩ := h
      exact dd_Rn.retB 0 (cf' := (12, [.ref 131, .int a1], [.int x2], sM Ln I2 L2 c s)) (v := x2) rfl rfl hc h (by omega)
    · have h := h.2 hc
      refine dd_Rn.cV 1 (pc := 14) (ls := [.ref 131, .int a1]) (st := [.ref 131]) (x := m_X4_advance) (as := [.ref 131]) (rest := []) rfl rfl rfl rfl h ?_
      intro I3 L3 h
      show dd_Rn (e + 16) m_X4_takeSign (17, [.ref 131, .int a1], [], sM Ln I3 L3 c s) _
      exact dd_Rn.retK 1 (pc := 18) (ls := [.ref 131, .int a1]) (st := [.int 1]) (M := sM Ln I3 L3 c s) (o := (none, .int 1, sM Ln I3 L3 c s)) rfl rfl h (by omega)

theorem w_X4_numberUpTo_0 {Ln d c s : Nat} {I : Nat → Nat → Int32} {L : Nat → Nat → Int64} {Q : dd_O → Prop} {k : Nat} {a1 : Int32} (hd : 28 ≤ d) (hk : k = 130 ∨ k = 131) (h : ((I k 2 = 2 → (((I k 4) - (I k 3) ≤ 3 → dd_Rn d m_X4_numberUpTo (30, [.ref k, .int a1, .int 0, .int (I k 3)], [], sM Ln I L c s) Q) ∧ (¬ ((I k 4) - (I k 3) ≤ 3) → Q (none, .int (-1), sM Ln I L c s)))) ∧ (¬ (I k 2 = 2) → Q (none, .int (-1), sM Ln I L c s)))) : dd_Ev d m_X4_numberUpTo [.ref k, .int a1] (sM Ln I L c s) Q := by
  obtain ⟨e, rfl⟩ : ∃ e, d = e + 16 := ⟨d - 16, by omega⟩
  show dd_Rn (e + 16) m_X4_numberUpTo (0, [.ref k, .int a1, .null, .null], [], sM Ln I L c s) Q
  rcases hk with rfl | rfl
  · refine dd_Rn.ite 3 (c := I 130 2 = 2) (A := (8, [.ref 130, .int a1, .null, .null], [], sM Ln I L c s)) (B := (21, [.ref 130, .int a1, .null, .null], [], sM Ln I L c s)) rfl (fun hc => ?_) (fun hc => ?_) (by omega)
    · have h := h.1 hc
      refine dd_Rn.ite 6 (c := (I 130 4) - (I 130 3) ≤ 3) (A := (23, [.ref 130, .int a1, .null, .null], [], sM Ln I L c s)) (B := (21, [.ref 130, .int a1, .null, .null], [], sM Ln I L c s)) rfl (fun hc => ?_) (fun hc => ?_) (by omega)
      · have h := h.1 hc
        exact dd_Rn.go 5 (cf' := (30, [.ref 130, .int a1, .int 0, .int (I 130 3)], [], sM Ln I L c s)) rfl h (by omega)
      · have h := h.2 hc
        exact dd_Rn.retK 1 (pc := 22) (ls := [.ref 130, .int a1, .null, .null]) (st := [.int (-1)]) (M := sM Ln I L c s) (o := (none, .int (-1), sM Ln I L c s)) rfl rfl h (by omega)
    · have h := h.2 hc
      exact dd_Rn.retK 1 (pc := 22) (ls := [.ref 130, .int a1, .null, .null]) (st := [.int (-1)]) (M := sM Ln I L c s) (o := (none, .int (-1), sM Ln I L c s)) rfl rfl h (by omega)
  · refine dd_Rn.ite 3 (c := I 131 2 = 2) (A := (8, [.ref 131, .int a1, .null, .null], [], sM Ln I L c s)) (B := (21, [.ref 131, .int a1, .null, .null], [], sM Ln I L c s)) rfl (fun hc => ?_) (fun hc => ?_) (by omega)
    · have h := h.1 hc
      refine dd_Rn.ite 6 (c := (I 131 4) - (I 131 3) ≤ 3) (A := (23, [.ref 131, .int a1, .null, .null], [], sM Ln I L c s)) (B := (21, [.ref 131, .int a1, .null, .null], [], sM Ln I L c s)) rfl (fun hc => ?_) (fun hc => ?_) (by omega)
      · have h := h.1 hc
        exact dd_Rn.go 5 (cf' := (30, [.ref 131, .int a1, .int 0, .int (I 131 3)], [], sM Ln I L c s)) rfl h (by omega)
      · have h := h.2 hc
        exact dd_Rn.retK 1 (pc := 22) (ls := [.ref 131, .int a1, .null, .null]) (st := [.int (-1)]) (M := sM Ln I L c s) (o := (none, .int (-1), sM Ln I L c s)) rfl rfl h (by omega)
    · have h := h.2 hc
      exact dd_Rn.retK 1 (pc := 22) (ls := [.ref 131, .int a1, .null, .null]) (st := [.int (-1)]) (M := sM Ln I L c s) (o := (none, .int (-1), sM Ln I L c s)) rfl rfl h (by omega)

theorem w_X4_numberUpTo_30 {Ln d c s : Nat} {I : Nat → Nat → Int32} {L : Nat → Nat → Int64} {Q : dd_O → Prop} {k : Nat} {a1 a2 a3 : Int32} (hd : 28 ≤ d) (hk : k = 130 ∨ k = 131) (h : ((I k 4 ≤ a3 → ((a1 < a2 → Q (none, .int (-1), sM Ln I L c s)) ∧ (¬ (a1 < a2) → Q (none, .int a2, sM Ln I L c s)))) ∧ (¬ (I k 4 ≤ a3) → ((0 ≤ a3 ∧ tn a3 < 400) ∧ dd_Rn d m_X4_numberUpTo (30, [.ref k, .int a1, .int ((((10 : Int32) * a2) + (I 129 (tn a3))) - 48), .int (a3 + 1)], [], sM Ln I L c s) Q)))) : dd_Rn d m_X4_numberUpTo (30, [.ref k, .int a1, .int a2, .int a3], [], sM Ln I L c s) Q := by
  obtain ⟨e, rfl⟩ : ∃ e, d = e + 16 := ⟨d - 16, by omega⟩
  rcases hk with rfl | rfl
  · refine dd_Rn.ite 3 (c := I 130 4 ≤ a3) (A := (59, [.ref 130, .int a1, .int a2, .int a3], [], sM Ln I L c s)) (B := (38, [.ref 130, .int a1, .int a2, .int a3], [], sM Ln I L c s)) rfl (fun hc => ?_) (fun hc => ?_) (by omega)
    · have h := h.1 hc
      refine dd_Rn.ite 2 (c := a1 < a2) (A := (68, [.ref 130, .int a1, .int a2, .int a3], [], sM Ln I L c s)) (B := (64, [.ref 130, .int a1, .int a2, .int a3], [], sM Ln I L c s)) rfl (fun hc => ?_) (fun hc => ?_) (by omega)
      · have h := h.1 hc
        exact dd_Rn.retK 1 (pc := 69) (ls := [.ref 130, .int a1, .int a2, .int a3]) (st := [.int (-1)]) (M := sM Ln I L c s) (o := (none, .int (-1), sM Ln I L c s)) rfl rfl h (by omega)
      · have h := h.2 hc
        exact dd_Rn.retK 2 (pc := 69) (ls := [.ref 130, .int a1, .int a2, .int a3]) (st := [.int a2]) (M := sM Ln I L c s) (o := (none, .int a2, sM Ln I L c s)) rfl rfl h (by omega)
    · have h := h.2 hc
      obtain ⟨hc, h⟩ := h
      refine dd_Rn.chk 6 (c := 0 ≤ a3 ∧ tn a3 < 400) (A := (48, [.ref 130, .int a1, .int a2, .int a3], [.int (I 129 (tn a3)), .int ((10 : Int32) * a2)], sM Ln I L c s)) rfl hc ?_ (by omega)
      exact dd_Rn.go 6 (cf' := (30, [.ref 130, .int a1, .int ((((10 : Int32) * a2) + (I 129 (tn a3))) - 48), .int (a3 + 1)], [], sM Ln I L c s)) rfl h (by omega)
  · refine dd_Rn.ite 3 (c := I 131 4 ≤ a3) (A := (59, [.ref 131, .int a1, .int a2, .int a3], [], sM Ln I L c s)) (B := (38, [.ref 131, .int a1, .int a2, .int a3], [], sM Ln I L c s)) rfl (fun hc => ?_) (fun hc => ?_) (by omega)
    · have h := h.1 hc
      refine dd_Rn.ite 2 (c := a1 < a2) (A := (68, [.ref 131, .int a1, .int a2, .int a3], [], sM Ln I L c s)) (B := (64, [.ref 131, .int a1, .int a2, .int a3], [], sM Ln I L c s)) rfl (fun hc => ?_) (fun hc => ?_) (by omega)
      · have h := h.1 hc
        exact dd_Rn.retK 1 (pc := 69) (ls := [.ref 131, .int a1, .int a2, .int a3]) (st := [.int (-1)]) (M := sM Ln I L c s) (o := (none, .int (-1), sM Ln I L c s)) rfl rfl h (by omega)
      · have h := h.2 hc
        exact dd_Rn.retK 2 (pc := 69) (ls := [.ref 131, .int a1, .int a2, .int a3]) (st := [.int a2]) (M := sM Ln I L c s) (o := (none, .int a2, sM Ln I L c s)) rfl rfl h (by omega)
    · have h := h.2 hc
      obtain ⟨hc, h⟩ := h
      refine dd_Rn.chk 6 (c := 0 ≤ a3 ∧ tn a3 < 400) (A := (48, [.ref 131, .int a1, .int a2, .int a3], [.int (I 129 (tn a3)), .int ((10 : Int32) * a2)], sM Ln I L c s)) rfl hc ?_ (by omega)
      exact dd_Rn.go 6 (cf' := (30, [.ref 131, .int a1, .int ((((10 : Int32) * a2) + (I 129 (tn a3))) - 48), .int (a3 + 1)], [], sM Ln I L c s)) rfl h (by omega)

theorem w_X4_takeNumber_0 {Ln d c s : Nat} {I : Nat → Nat → Int32} {L : Nat → Nat → Int64} {Q : dd_O → Prop} {k : Nat} {a1 : Int32} (hd : 28 ≤ d) (hk : k = 130 ∨ k = 131) (h : dd_Ev (d - 1) m_X4_numberUpTo [.ref k, .int a1] (sM Ln I L c s) (dd_RI Ln c s (fun x1 I1 L1 => ((x1 = (-1) → dd_Ev (d - 1) m_X4_refuse [.ref k] (sM Ln I1 L1 c s) (dd_RI Ln c s (fun x2 I2 L2 => Q (none, .int x1, sM Ln I2 L2 c s)))) ∧ (¬ (x1 = (-1)) → dd_Ev (d - 1) m_X4_advance [.ref k] (sM Ln I1 L1 c s) (dd_RV Ln c s (fun I3 L3 => Q (none, .int x1, sM Ln I3 L3 c s)))))))) : dd_Ev d m_X4_takeNumber [.ref k, .int a1] (sM Ln I L c s) Q := by
  obtain ⟨e, rfl⟩ : ∃ e, d = e + 16 := ⟨d - 16, by omega⟩
  show dd_Rn (e + 16) m_X4_takeNumber (0, [.ref k, .int a1, .null], [], sM Ln I L c s) Q
  rcases hk with rfl | rfl
  · refine dd_Rn.cI 2 (pc := 2) (ls := [.ref 130, .int a1, .null]) (st := [.int a1, .ref 130]) (x := m_X4_numberUpTo) (as := [.ref 130, .int a1]) (rest := []) rfl rfl rfl rfl h ?_
    intro x1 I1 L1 h
    show dd_Rn (e + 16) m_X4_takeNumber (5, [.ref 130, .int a1, .null], [.int x1], sM Ln I1 L1 c s) _
    refine dd_Rn.ite 3 (c := x1 = (-1)) (A := (11, [.ref 130, .int a1, .int x1], [], sM Ln I1 L1 c s)) (B := (19, [.ref 130, .int a1, .int x1], [], sM Ln I1 L1 c s)) rfl (fun hc => ?_) (fun hc => ?_) (by omega)
    · have h := h.1 hc
      refine dd_Rn.cI 1 (pc := 12) (ls := [.ref 130, .int a1, .int x1]) (st := [.ref 130]) (x := m_X4_refuse) (as := [.ref 130]) (rest := []) rfl rfl rfl rfl h ?_
      intro x2 I2 L2 h
      show dd_Rn (e + 16) m_X4_takeNumber (15, [.ref 130, .int a1, .int x1], [.int x2], sM Ln I2 L2 c s) _
      exact dd_Rn.retK 3 (pc := 24) (ls := [.ref 130, .int a1, .int x1]) (st := [.int x1]) (M := sM Ln I2 L2 c s) (o := (none, .int x1, sM Ln I2 L2 c s)) rfl rfl h (by omega)
    · have h := h.2 hc
      refine dd_Rn.cV 1 (pc := 20) (ls := [.ref 130, .int a1, .int x1]) (st := [.ref 130]) (x := m_X4_advance) (as := [.ref 130]) (rest := []) rfl rfl rfl rfl h ?_
      intro I3 L3 h
      show dd_Rn (e + 16) m_X4_takeNumber (23, [.ref 130, .int a1, .int x1], [], sM Ln I3 L3 c s) _
      exact dd_Rn.retK 1 (pc := 24) (ls := [.ref 130, .int a1, .int x1]) (st := [.int x1]) (M := sM Ln I3 L3 c s) (o := (none, .int x1, sM Ln I3 L3 c s)) rfl rfl h (by omega)
  · refine dd_Rn.cI 2 (pc := 2) (ls := [.ref 131, .int a1, .null]) (st := [.int a1, .ref 131]) (x := m_X4_numberUpTo) (as := [.ref 131, .int a1]) (rest := []) rfl rfl rfl rfl h ?_
    intro x1 I1 L1 h
    show dd_Rn (e + 16) m_X4_takeNumber (5, [.ref 131, .int a1, .null], [.int x1], sM Ln I1 L1 c s) _
    refine dd_Rn.ite 3 (c := x1 = (-1)) (A := (11, [.ref 131, .int a1, .int x1], [], sM Ln I1 L1 c s)) (B := (19, [.ref 131, .int a1, .int x1], [], sM Ln I1 L1 c s)) rfl (fun hc => ?_) (fun hc => ?_) (by omega)
    · have h := h.1 hc
      refine dd_Rn.cI 1 (pc := 12) (ls := [.ref 131, .int a1, .int x1]) (st := [.ref 131]) (x := m_X4_refuse) (as := [.ref 131]) (rest := []) rfl rfl rfl rfl h ?_
      intro x2 I2 L2 h
      show dd_Rn (e + 16) m_X4_takeNumber (15, [.ref 131, .int a1, .int x1], [.int x2], sM Ln I2 L2 c s) _
      exact dd_Rn.retK 3 (pc := 24) (ls := [.ref 131, .int a1, .int x1]) (st := [.int x1]) (M := sM Ln I2 L2 c s) (o := (none, .int x1, sM Ln I2 L2 c s)) rfl rfl h (by omega)
    · have h := h.2 hc
      refine dd_Rn.cV 1 (pc := 20) (ls := [.ref 131, .int a1, .int x1]) (st := [.ref 131]) (x := m_X4_advance) (as := [.ref 131]) (rest := []) rfl rfl rfl rfl h ?_
      intro I3 L3 h
      show dd_Rn (e + 16) m_X4_takeNumber (23, [.ref 131, .int a1, .int x1], [], sM Ln I3 L3 c s) _
      exact dd_Rn.retK 1 (pc := 24) (ls := [.ref 131, .int a1, .int x1]) (st := [.int x1]) (M := sM Ln I3 L3 c s) (o := (none, .int x1, sM Ln I3 L3 c s)) rfl rfl h (by omega)

theorem w_X4_copyFigures_0 {Ln d c s : Nat} {I : Nat → Nat → Int32} {L : Nat → Nat → Int64} {Q : dd_O → Prop} {a2 a3 a4 : Int32} (hd : 28 ≤ d) (h : ((I 130 2 = 2 → (((I 130 4) - (I 130 3) = a3 → ((a2 + a3 ≤ 48 → dd_Rn d m_X4_copyFigures (34, [.ref 130, .ref 3, .int a2, .int a3, .int a4, .int 0, .null], [], sM Ln I L c s) Q) ∧ (¬ (a2 + a3 ≤ 48) → Q (none, .int 0, sM Ln I L c s)))) ∧ (¬ ((I 130 4) - (I 130 3) = a3) → Q (none, .int 0, sM Ln I L c s)))) ∧ (¬ (I 130 2 = 2) → Q (none, .int 0, sM Ln I L c s)))) : dd_Ev d m_X4_copyFigures [.ref 130, .ref 3, .int a2, .int a3, .int a4] (sM Ln I L c s) Q := by
  obtain ⟨e, rfl⟩ : ∃ e, d = e + 16 := ⟨d - 16, by omega⟩
  show dd_Rn (e + 16) m_X4_copyFigures (0, [.ref 130, .ref 3, .int a2, .int a3, .int a4, .null, .null], [], sM Ln I L c s) Q
  refine dd_Rn.ite 3 (c := I 130 2 = 2) (A := (8, [.ref 130, .ref 3, .int a2, .int a3, .int a4, .null, .null], [], sM Ln I L c s)) (B := (29, [.ref 130, .ref 3, .int a2, .int a3, .int a4, .null, .null], [], sM Ln I L c s)) rfl (fun hc => ?_) (fun hc => ?_) (by omega)
  · have h := h.1 hc
    refine dd_Rn.ite 6 (c := (I 130 4) - (I 130 3) = a3) (A := (21, [.ref 130, .ref 3, .int a2, .int a3, .int a4, .null, .null], [], sM Ln I L c s)) (B := (29, [.ref 130, .ref 3, .int a2, .int a3, .int a4, .null, .null], [], sM Ln I L c s)) rfl (fun hc => ?_) (fun hc => ?_) (by omega)
    · have h := h.1 hc
      refine dd_Rn.ite 5 (c := a2 + a3 ≤ 48) (A := (31, [.ref 130, .ref 3, .int a2, .int a3, .int a4, .null, .null], [], sM Ln I L c s)) (B := (29, [.ref 130, .ref 3, .int a2, .int a3, .int a4, .null, .null], [], sM Ln I L c s)) rfl (fun hc => ?_) (fun hc => ?_) (by omega)
      · have h := h.1 hc
        exact dd_Rn.go 2 (cf' := (34, [.ref 130, .ref 3, .int a2, .int a3, .int a4, .int 0, .null], [], sM Ln I L c s)) rfl h (by omega)
      · have h := h.2 hc
        exact dd_Rn.retK 1 (pc := 30) (ls := [.ref 130, .ref 3, .int a2, .int a3, .int a4, .null, .null]) (st := [.int 0]) (M := sM Ln I L c s) (o := (none, .int 0, sM Ln I L c s)) rfl rfl h (by omega)
    · have h := h.2 hc
      exact dd_Rn.retK 1 (pc := 30) (ls := [.ref 130, .ref 3, .int a2, .int a3, .int a4, .null, .null]) (st := [.int 0]) (M := sM Ln I L c s) (o := (none, .int 0, sM Ln I L c s)) rfl rfl h (by omega)
  · have h := h.2 hc
    exact dd_Rn.retK 1 (pc := 30) (ls := [.ref 130, .ref 3, .int a2, .int a3, .int a4, .null, .null]) (st := [.int 0]) (M := sM Ln I L c s) (o := (none, .int 0, sM Ln I L c s)) rfl rfl h (by omega)

theorem w_X4_copyFigures_34 {Ln d c s : Nat} {I : Nat → Nat → Int32} {L : Nat → Nat → Int64} {Q : dd_O → Prop} {a2 a3 a4 a5 : Int32} {a6 : Value} (hd : 28 ≤ d) (h : ((a3 ≤ a5 → Q (none, .int 1, sM Ln I L c s)) ∧ (¬ (a3 ≤ a5) → ((0 ≤ (I 130 3) + a5 ∧ tn ((I 130 3) + a5) < 400) ∧ (((I 129 (tn ((I 130 3) + a5))) - 48 ≤ a4 → ((0 ≤ a2 + a5 ∧ tn (a2 + a5) < 48) ∧ dd_Rn d m_X4_copyFigures (34, [.ref 130, .ref 3, .int a2, .int a3, .int a4, .int (a5 + 1), .int ((I 129 (tn ((I 130 3) + a5))) - 48)], [], sM Ln (dd_u I 3 (upd (I 3) (tn (a2 + a5)) ((I 129 (tn ((I 130 3) + a5))) - 48))) L c s) Q)) ∧ (¬ ((I 129 (tn ((I 130 3) + a5))) - 48 ≤ a4) → Q (none, .int 0, sM Ln I L c s))))))) : dd_Rn d m_X4_copyFigures (34, [.ref 130, .ref 3, .int a2, .int a3, .int a4, .int a5, a6], [], sM Ln I L c s) Q := by
  obtain ⟨e, rfl⟩ : ∃ e, d = e + 16 := ⟨d - 16, by omega⟩
  refine dd_Rn.ite 2 (c := a3 ≤ a5) (A := (80, [.ref 130, .ref 3, .int a2, .int a3, .int a4, .int a5, a6], [], sM Ln I L c s)) (B := (40, [.ref 130, .ref 3, .int a2, .int a3, .int a4, .int a5, a6], [], sM Ln I L c s)) rfl (fun hc => ?_) (fun hc => ?_) (by omega)
  · have h := h.1 hc
    exact dd_Rn.retK 1 (pc := 81) (ls := [.ref 130, .ref 3, .int a2, .int a3, .int a4, .int a5, a6]) (st := [.int 1]) (M := sM Ln I L c s) (o := (none, .int 1, sM Ln I L c s)) rfl rfl h (by omega)
  · have h := h.2 hc
    obtain ⟨hc, h⟩ := h
    refine dd_Rn.go 6 (cf' := (51, [.ref 130, .ref 3, .int a2, .int a3, .int a4, .int a5, a6], [.int ((I 130 3) + a5), .ref 129], sM Ln I L c s)) rfl ?_ (by omega)
    refine dd_Rn.ci (fun j0 => (51, [.ref 130, .ref 3, .int a2, .int a3, .int a4, .int a5, a6], [.int j0, .ref 129], sM Ln I L c s)) (fun j0 => (52, [.ref 130, .ref 3, .int a2, .int a3, .int a4, .int a5, a6], [.int (I 129 (tn j0))], sM Ln I L c s)) (fun j0 => 0 ≤ j0 ∧ tn j0 < 400) ((I 130 3) + a5) (fun j0 hc h => dd_Rn.chk 0 (c := 0 ≤ j0 ∧ tn j0 < 400) (A := (52, [.ref 130, .ref 3, .int a2, .int a3, .int a4, .int a5, a6], [.int (I 129 (tn j0))], sM Ln I L c s)) rfl hc h (by omega)) hc ?_
    refine dd_Rn.se (cf := (52, [.ref 130, .ref 3, .int a2, .int a3, .int a4, .int a5, a6], [.int (I 129 (tn ((I 130 3) + a5)))], sM Ln I L c s)) ?_
    refine dd_Rn.ite 5 (c := (I 129 (tn ((I 130 3) + a5))) - 48 ≤ a4) (A := (66, [.ref 130, .ref 3, .int a2, .int a3, .int a4, .int a5, .int ((I 129 (tn ((I 130 3) + a5))) - 48)], [], sM Ln I L c s)) (B := (64, [.ref 130, .ref 3, .int a2, .int a3, .int a4, .int a5, .int ((I 129 (tn ((I 130 3) + a5))) - 48)], [], sM Ln I L c s)) rfl (fun hc => ?_) (fun hc => ?_) (by omega)
    · have h := h.1 hc
      obtain ⟨hc, h⟩ := h
      refine dd_Rn.go 5 (cf' := (73, [.ref 130, .ref 3, .int a2, .int a3, .int a4, .int a5, .int ((I 129 (tn ((I 130 3) + a5))) - 48)], [.int ((I 129 (tn ((I 130 3) + a5))) - 48), .int (a2 + a5), .ref 3], sM Ln I L c s)) rfl ?_ (by omega)
      refine dd_Rn.ci (fun j0 => (73, [.ref 130, .ref 3, .int a2, .int a3, .int a4, .int a5, .int ((I 129 (tn ((I 130 3) + a5))) - 48)], [.int ((I 129 (tn ((I 130 3) + a5))) - 48), .int j0, .ref 3], sM Ln I L c s)) (fun j0 => (74, [.ref 130, .ref 3, .int a2, .int a3, .int a4, .int a5, .int ((I 129 (tn ((I 130 3) + a5))) - 48)], [], sM Ln (dd_u I 3 (upd (I 3) (tn j0) ((I 129 (tn ((I 130 3) + a5))) - 48))) L c s)) (fun j0 => 0 ≤ j0 ∧ tn j0 < 48) (a2 + a5) (fun j0 hc h => dd_Rn.chk 0 (c := 0 ≤ j0 ∧ tn j0 < 48) (A := (74, [.ref 130, .ref 3, .int a2, .int a3, .int a4, .int a5, .int ((I 129 (tn ((I 130 3) + a5))) - 48)], [], sM Ln (dd_u I 3 (upd (I 3) (tn j0) ((I 129 (tn ((I 130 3) + a5))) - 48))) L c s)) rfl hc h (by omega)) hc ?_
      refine dd_Rn.se (cf := (74, [.ref 130, .ref 3, .int a2, .int a3, .int a4, .int a5, .int ((I 129 (tn ((I 130 3) + a5))) - 48)], [], sM Ln (dd_u I 3 (upd (I 3) (tn (a2 + a5)) ((I 129 (tn ((I 130 3) + a5))) - 48))) L c s)) ?_
      exact dd_Rn.go 2 (cf' := (34, [.ref 130, .ref 3, .int a2, .int a3, .int a4, .int (a5 + 1), .int ((I 129 (tn ((I 130 3) + a5))) - 48)], [], sM Ln (dd_u I 3 (upd (I 3) (tn (a2 + a5)) ((I 129 (tn ((I 130 3) + a5))) - 48))) L c s)) rfl h (by omega)
    · have h := h.2 hc
      exact dd_Rn.retK 1 (pc := 65) (ls := [.ref 130, .ref 3, .int a2, .int a3, .int a4, .int a5, .int ((I 129 (tn ((I 130 3) + a5))) - 48)]) (st := [.int 0]) (M := sM Ln I L c s) (o := (none, .int 0, sM Ln I L c s)) rfl rfl h (by omega)

theorem w_X9_readLine_0 {Ln d c s : Nat} {I : Nat → Nat → Int32} {L : Nat → Nat → Int64} {Q : dd_O → Prop} (hd : 28 ≤ d) (h : dd_Ev (d - 1) m_X4_isWord [.ref 130, .ref 1000017] (sM Ln I L c s) (dd_RI Ln c s (fun x1 I1 L1 => ((x1 = 0 → dd_Ev (d - 1) m_X4_isWord [.ref 130, .ref 1000018] (sM Ln I1 L1 c s) (dd_RI Ln c s (fun x2 I2 L2 => ((x2 = 0 → dd_Ev (d - 1) m_X4_isWord [.ref 130, .ref 1000022] (sM Ln I2 L2 c s) (dd_RI Ln c s (fun x3 I3 L3 => ((x3 = 0 → dd_Ev (d - 1) m_X4_isWord [.ref 130, .ref 1000023] (sM Ln I3 L3 c s) (dd_RI Ln c s (fun x4 I4 L4 => ((x4 = 0 → dd_Ev (d - 1) m_X4_isWord [.ref 130, .ref 1000024] (sM Ln I4 L4 c s) (dd_RI Ln c s (fun x5 I5 L5 => ((x5 = 0 → dd_Ev (d - 1) m_X9_readSetting [.ref 130] (sM Ln I5 L5 c s) (dd_RI Ln c s (fun x6 I6 L6 => ((x6 = 0 ∨ x6 = 1) ∧ Q (none, .int x6, sM Ln I6 L6 c s))))) ∧ (¬ (x5 = 0) → dd_Ev (d - 1) m_X9_readFire [.ref 130] (sM Ln I5 L5 c s) (dd_RI Ln c s (fun x7 I7 L7 => ((x7 = 0 ∨ x7 = 1) ∧ Q (none, .int x7, sM Ln I7 L7 c s))))))))) ∧ (¬ (x4 = 0) → dd_Ev (d - 1) m_X9_readFerns [.ref 130] (sM Ln I4 L4 c s) (dd_RI Ln c s (fun x8 I8 L8 => ((x8 = 0 ∨ x8 = 1) ∧ Q (none, .int x8, sM Ln I8 L8 c s))))))))) ∧ (¬ (x3 = 0) → dd_Ev (d - 1) m_X9_readTrees [.ref 130] (sM Ln I3 L3 c s) (dd_RI Ln c s (fun x9 I9 L9 => ((x9 = 0 ∨ x9 = 1) ∧ Q (none, .int x9, sM Ln I9 L9 c s))))))))) ∧ (¬ (x2 = 0) → dd_Ev (d - 1) m_X9_readBoy [.ref 130] (sM Ln I2 L2 c s) (dd_RI Ln c s (fun x10 I10 L10 => ((x10 = 0 ∨ x10 = 1) ∧ Q (none, .int x10, sM Ln I10 L10 c s))))))))) ∧ (¬ (x1 = 0) → dd_Ev (d - 1) m_X9_readPart [.ref 130] (sM Ln I1 L1 c s) (dd_RI Ln c s (fun x11 I11 L11 => ((x11 = 0 ∨ x11 = 1) ∧ Q (none, .int x11, sM Ln I11 L11 c s))))))))) : dd_Ev d m_X9_readLine [.ref 130] (sM Ln I L c s) Q := by
  obtain ⟨e, rfl⟩ : ∃ e, d = e + 16 := ⟨d - 16, by omega⟩
  show dd_Rn (e + 16) m_X9_readLine (0, [.ref 130], [], sM Ln I L c s) Q
  refine dd_Rn.cI 2 (pc := 3) (ls := [.ref 130]) (st := [.ref 1000017, .ref 130]) (x := m_X4_isWord) (as := [.ref 130, .ref 1000017]) (rest := []) rfl rfl rfl rfl h ?_
  intro x1 I1 L1 h
  show dd_Rn (e + 16) m_X9_readLine (6, [.ref 130], [.int x1], sM Ln I1 L1 c s) _
  refine dd_Rn.ite 0 (c := x1 = 0) (A := (14, [.ref 130], [], sM Ln I1 L1 c s)) (B := (9, [.ref 130], [], sM Ln I1 L1 c s)) rfl (fun hc => ?_) (fun hc => ?_) (by omega)
  · have h := h.1 hc
    refine dd_Rn.cI 2 (pc := 17) (ls := [.ref 130]) (st := [.ref 1000018, .ref 130]) (x := m_X4_isWord) (as := [.ref 130, .ref 1000018]) (rest := []) rfl rfl rfl rfl h ?_
    intro x2 I2 L2 h
    show dd_Rn (e + 16) m_X9_readLine (20, [.ref 130], [.int x2], sM Ln I2 L2 c s) _
    refine dd_Rn.ite 0 (c := x2 = 0) (A := (28, [.ref 130], [], sM Ln I2 L2 c s)) (B := (23, [.ref 130], [], sM Ln I2 L2 c s)) rfl (fun hc => ?_) (fun hc => ?_) (by omega)
    · have h := h.1 hc
      refine dd_Rn.cI 2 (pc := 31) (ls := [.ref 130]) (st := [.ref 1000022, .ref 130]) (x := m_X4_isWord) (as := [.ref 130, .ref 1000022]) (rest := []) rfl rfl rfl rfl h ?_
      intro x3 I3 L3 h
      show dd_Rn (e + 16) m_X9_readLine (34, [.ref 130], [.int x3], sM Ln I3 L3 c s) _
      refine dd_Rn.ite 0 (c := x3 = 0) (A := (42, [.ref 130], [], sM Ln I3 L3 c s)) (B := (37, [.ref 130], [], sM Ln I3 L3 c s)) rfl (fun hc => ?_) (fun hc => ?_) (by omega)
      · have h := h.1 hc
        refine dd_Rn.cI 2 (pc := 45) (ls := [.ref 130]) (st := [.ref 1000023, .ref 130]) (x := m_X4_isWord) (as := [.ref 130, .ref 1000023]) (rest := []) rfl rfl rfl rfl h ?_
        intro x4 I4 L4 h
        show dd_Rn (e + 16) m_X9_readLine (48, [.ref 130], [.int x4], sM Ln I4 L4 c s) _
        refine dd_Rn.ite 0 (c := x4 = 0) (A := (56, [.ref 130], [], sM Ln I4 L4 c s)) (B := (51, [.ref 130], [], sM Ln I4 L4 c s)) rfl (fun hc => ?_) (fun hc => ?_) (by omega)
        · have h := h.1 hc
          refine dd_Rn.cI 2 (pc := 59) (ls := [.ref 130]) (st := [.ref 1000024, .ref 130]) (x := m_X4_isWord) (as := [.ref 130, .ref 1000024]) (rest := []) rfl rfl rfl rfl h ?_
          intro x5 I5 L5 h
          show dd_Rn (e + 16) m_X9_readLine (62, [.ref 130], [.int x5], sM Ln I5 L5 c s) _
          refine dd_Rn.ite 0 (c := x5 = 0) (A := (70, [.ref 130], [], sM Ln I5 L5 c s)) (B := (65, [.ref 130], [], sM Ln I5 L5 c s)) rfl (fun hc => ?_) (fun hc => ?_) (by omega)
          · have h := h.1 hc
            refine dd_Rn.cI 1 (pc := 71) (ls := [.ref 130]) (st := [.ref 130]) (x := m_X9_readSetting) (as := [.ref 130]) (rest := []) rfl rfl rfl rfl h ?_
            intro x6 I6 L6 h
            show dd_Rn (e + 16) m_X9_readLine (74, [.ref 130], [.int x6], sM Ln I6 L6 c s) _
            obtain ⟨hc, h⟩ := h
            exact dd_Rn.retB 0 (cf' := (74, [.ref 130], [.int x6], sM Ln I6 L6 c s)) (v := x6) rfl rfl hc h (by omega)
          · have h := h.2 hc
            refine dd_Rn.cI 1 (pc := 66) (ls := [.ref 130]) (st := [.ref 130]) (x := m_X9_readFire) (as := [.ref 130]) (rest := []) rfl rfl rfl rfl h ?_
            intro x7 I7 L7 h
            show dd_Rn (e + 16) m_X9_readLine (69, [.ref 130], [.int x7], sM Ln I7 L7 c s) _
            obtain ⟨hc, h⟩ := h
            exact dd_Rn.retB 0 (cf' := (69, [.ref 130], [.int x7], sM Ln I7 L7 c s)) (v := x7) rfl rfl hc h (by omega)
        · have h := h.2 hc
          refine dd_Rn.cI 1 (pc := 52) (ls := [.ref 130]) (st := [.ref 130]) (x := m_X9_readFerns) (as := [.ref 130]) (rest := []) rfl rfl rfl rfl h ?_
          intro x8 I8 L8 h
          show dd_Rn (e + 16) m_X9_readLine (55, [.ref 130], [.int x8], sM Ln I8 L8 c s) _
          obtain ⟨hc, h⟩ := h
          exact dd_Rn.retB 0 (cf' := (55, [.ref 130], [.int x8], sM Ln I8 L8 c s)) (v := x8) rfl rfl hc h (by omega)
      · have h := h.2 hc
        refine dd_Rn.cI 1 (pc := 38) (ls := [.ref 130]) (st := [.ref 130]) (x := m_X9_readTrees) (as := [.ref 130]) (rest := []) rfl rfl rfl rfl h ?_
        intro x9 I9 L9 h
        show dd_Rn (e + 16) m_X9_readLine (41, [.ref 130], [.int x9], sM Ln I9 L9 c s) _
        obtain ⟨hc, h⟩ := h
        exact dd_Rn.retB 0 (cf' := (41, [.ref 130], [.int x9], sM Ln I9 L9 c s)) (v := x9) rfl rfl hc h (by omega)
    · have h := h.2 hc
      refine dd_Rn.cI 1 (pc := 24) (ls := [.ref 130]) (st := [.ref 130]) (x := m_X9_readBoy) (as := [.ref 130]) (rest := []) rfl rfl rfl rfl h ?_
      intro x10 I10 L10 h
      show dd_Rn (e + 16) m_X9_readLine (27, [.ref 130], [.int x10], sM Ln I10 L10 c s) _
      obtain ⟨hc, h⟩ := h
      exact dd_Rn.retB 0 (cf' := (27, [.ref 130], [.int x10], sM Ln I10 L10 c s)) (v := x10) rfl rfl hc h (by omega)
  · have h := h.2 hc
    refine dd_Rn.cI 1 (pc := 10) (ls := [.ref 130]) (st := [.ref 130]) (x := m_X9_readPart) (as := [.ref 130]) (rest := []) rfl rfl rfl rfl h ?_
    intro x11 I11 L11 h
    show dd_Rn (e + 16) m_X9_readLine (13, [.ref 130], [.int x11], sM Ln I11 L11 c s) _
    obtain ⟨hc, h⟩ := h
    exact dd_Rn.retB 0 (cf' := (13, [.ref 130], [.int x11], sM Ln I11 L11 c s)) (v := x11) rfl rfl hc h (by omega)

theorem w_X9_readPart_0 {Ln d c s : Nat} {I : Nat → Nat → Int32} {L : Nat → Nat → Int64} {Q : dd_O → Prop} (hd : 28 ≤ d) (h : ((I 1 9 < 6 → dd_Ev (d - 1) m_X4_advance [.ref 130] (sM Ln I L c s) (dd_RV Ln c s (fun I1 L1 => dd_Ev (d - 1) m_X4_copyFigures [.ref 130, .ref 3, .int ((I1 1 9) * 8), .int 8, .int 7] (sM Ln I1 L1 c s) (dd_RI Ln c s (fun x2 I2 L2 => ((x2 = 0 → dd_Ev (d - 1) m_X4_refuse [.ref 130] (sM Ln I2 L2 c s) (dd_RI Ln c s (fun x3 I3 L3 => ((x3 = 0 ∨ x3 = 1) ∧ Q (none, .int x3, sM Ln I3 L3 c s))))) ∧ (¬ (x2 = 0) → dd_Ev (d - 1) m_X4_advance [.ref 130] (sM Ln I2 L2 c s) (dd_RV Ln c s (fun I4 L4 => Q (none, .int 1, sM Ln (dd_u I4 1 (upd (I4 1) 9 ((I4 1 9) + 1))) L4 c s)))))))))) ∧ (¬ (I 1 9 < 6) → dd_Ev (d - 1) m_X4_refuse [.ref 130] (sM Ln I L c s) (dd_RI Ln c s (fun x5 I5 L5 => ((x5 = 0 ∨ x5 = 1) ∧ Q (none, .int x5, sM Ln I5 L5 c s))))))) : dd_Ev d m_X9_readPart [.ref 130] (sM Ln I L c s) Q := by
  obtain ⟨e, rfl⟩ : ∃ e, d = e + 16 := ⟨d - 16, by omega⟩
  show dd_Rn (e + 16) m_X9_readPart (0, [.ref 130], [], sM Ln I L c s) Q
  refine dd_Rn.ite 4 (c := I 1 9 < 6) (A := (17, [.ref 130], [], sM Ln I L c s)) (B := (12, [.ref 130], [], sM Ln I L c s)) rfl (fun hc => ?_) (fun hc => ?_) (by omega)
  · have h := h.1 hc
    refine dd_Rn.cV 1 (pc := 18) (ls := [.ref 130]) (st := [.ref 130]) (x := m_X4_advance) (as := [.ref 130]) (rest := []) rfl rfl rfl rfl h ?_
    intro I1 L1 h
    show dd_Rn (e + 16) m_X9_readPart (21, [.ref 130], [], sM Ln I1 L1 c s) _
    refine dd_Rn.cI 11 (pc := 43) (ls := [.ref 130]) (st := [.int 7, .int 8, .int ((I1 1 9) * 8), .ref 3, .ref 130]) (x := m_X4_copyFigures) (as := [.ref 130, .ref 3, .int ((I1 1 9) * 8), .int 8, .int 7]) (rest := []) rfl rfl rfl rfl h ?_
    intro x2 I2 L2 h
    show dd_Rn (e + 16) m_X9_readPart (46, [.ref 130], [.int x2], sM Ln I2 L2 c s) _
    refine dd_Rn.ite 0 (c := x2 = 0) (A := (49, [.ref 130], [], sM Ln I2 L2 c s)) (B := (54, [.ref 130], [], sM Ln I2 L2 c s)) rfl (fun hc => ?_) (fun hc => ?_) (by omega)
    · have h := h.1 hc
      refine dd_Rn.cI 1 (pc := 50) (ls := [.ref 130]) (st := [.ref 130]) (x := m_X4_refuse) (as := [.ref 130]) (rest := []) rfl rfl rfl rfl h ?_
      intro x3 I3 L3 h
      show dd_Rn (e + 16) m_X9_readPart (53, [.ref 130], [.int x3], sM Ln I3 L3 c s) _
      obtain ⟨hc, h⟩ := h
      exact dd_Rn.retB 0 (cf' := (53, [.ref 130], [.int x3], sM Ln I3 L3 c s)) (v := x3) rfl rfl hc h (by omega)
    · have h := h.2 hc
      refine dd_Rn.cV 1 (pc := 55) (ls := [.ref 130]) (st := [.ref 130]) (x := m_X4_advance) (as := [.ref 130]) (rest := []) rfl rfl rfl rfl h ?_
      intro I4 L4 h
      show dd_Rn (e + 16) m_X9_readPart (58, [.ref 130], [], sM Ln I4 L4 c s) _
      exact dd_Rn.retK 8 (pc := 72) (ls := [.ref 130]) (st := [.int 1]) (M := sM Ln (dd_u I4 1 (upd (I4 1) 9 ((I4 1 9) + 1))) L4 c s) (o := (none, .int 1, sM Ln (dd_u I4 1 (upd (I4 1) 9 ((I4 1 9) + 1))) L4 c s)) rfl rfl h (by omega)
  · have h := h.2 hc
    refine dd_Rn.cI 1 (pc := 13) (ls := [.ref 130]) (st := [.ref 130]) (x := m_X4_refuse) (as := [.ref 130]) (rest := []) rfl rfl rfl rfl h ?_
    intro x5 I5 L5 h
    show dd_Rn (e + 16) m_X9_readPart (16, [.ref 130], [.int x5], sM Ln I5 L5 c s) _
    obtain ⟨hc, h⟩ := h
    exact dd_Rn.retB 0 (cf' := (16, [.ref 130], [.int x5], sM Ln I5 L5 c s)) (v := x5) rfl rfl hc h (by omega)

theorem w_X9_readBoy_0 {Ln d c s : Nat} {I : Nat → Nat → Int32} {L : Nat → Nat → Int64} {Q : dd_O → Prop} (hd : 28 ≤ d) (h : ((I 1 10 < 6 → dd_Ev (d - 1) m_X4_advance [.ref 130] (sM Ln I L c s) (dd_RV Ln c s (fun I1 L1 => dd_Ev (d - 1) m_X4_takeWord [.ref 130, .ref 1000019] (sM Ln I1 L1 c s) (dd_RI Ln c s (fun x2 I2 L2 => ((x2 = 0 → Q (none, .int 0, sM Ln I2 L2 c s)) ∧ (¬ (x2 = 0) → dd_Ev (d - 1) m_X9_takeOpenCell [.ref 130] (sM Ln I2 L2 c s) (dd_RI Ln c s (fun x3 I3 L3 => ((x3 = (-1) → Q (none, .int 0, sM Ln I3 L3 c s)) ∧ (¬ (x3 = (-1)) → dd_Ev (d - 1) m_X4_takeWord [.ref 130, .ref 1000020] (sM Ln I3 L3 c s) (dd_RI Ln c s (fun x4 I4 L4 => ((x4 = 0 → Q (none, .int 0, sM Ln I4 L4 c s)) ∧ (¬ (x4 = 0) → dd_Ev (d - 1) m_X4_takeNumber [.ref 130, .int ((I4 1 9) - 1)] (sM Ln I4 L4 c s) (dd_RI Ln c s (fun x5 I5 L5 => ((x5 = (-1) → Q (none, .int 0, sM Ln I5 L5 c s)) ∧ (¬ (x5 = (-1)) → dd_Ev (d - 1) m_X4_takeWord [.ref 130, .ref 1000021] (sM Ln I5 L5 c s) (dd_RI Ln c s (fun x6 I6 L6 => ((x6 = 0 → Q (none, .int 0, sM Ln I6 L6 c s)) ∧ (¬ (x6 = 0) → dd_Ev (d - 1) m_X4_takeNumber [.ref 130, .int 15] (sM Ln I6 L6 c s) (dd_RI Ln c s (fun x7 I7 L7 => ((x7 = (-1) → Q (none, .int 0, sM Ln I7 L7 c s)) ∧ (¬ (x7 = (-1)) → ((0 ≤ I7 1 10 ∧ tn (I7 1 10) < 6) ∧ ((0 ≤ I7 1 10 ∧ tn (I7 1 10) < 6) ∧ ((0 ≤ I7 1 10 ∧ tn (I7 1 10) < 6) ∧ dd_Ev (d - 1) m_X8_putBoy [.ref 1, .int (I7 1 10), .int x3] (sM Ln (dd_u (dd_u (dd_u (dd_u I7 1 (upd (I7 1) 10 ((I7 1 10) + 1))) 5 (upd (I7 5) (tn (I7 1 10)) x5)) 6 (upd (I7 6) (tn (I7 1 10)) x7)) 7 (upd (I7 7) (tn (I7 1 10)) 0)) L7 c s) (dd_RV Ln c s (fun I8 L8 => Q (none, .int 1, sM Ln I8 L8 c s))))))))))))))))))))))))))))))))) ∧ (¬ (I 1 10 < 6) → dd_Ev (d - 1) m_X4_refuse [.ref 130] (sM Ln I L c s) (dd_RI Ln c s (fun x9 I9 L9 => ((x9 = 0 ∨ x9 = 1) ∧ Q (none, .int x9, sM Ln I9 L9 c s))))))) : dd_Ev d m_X9_readBoy [.ref 130] (sM Ln I L c s) Q := by
  obtain ⟨e, rfl⟩ : ∃ e, d = e + 16 := ⟨d - 16, by omega⟩
  show dd_Rn (e + 16) m_X9_readBoy (0, [.ref 130, .null, .null, .null, .null], [], sM Ln I L c s) Q
  refine dd_Rn.ite 4 (c := I 1 10 < 6) (A := (17, [.ref 130, .null, .null, .null, .null], [], sM Ln I L c s)) (B := (12, [.ref 130, .null, .null, .null, .null], [], sM Ln I L c s)) rfl (fun hc => ?_) (fun hc => ?_) (by omega)
  · have h := h.1 hc
    refine dd_Rn.cV 1 (pc := 18) (ls := [.ref 130, .null, .null, .null, .null]) (st := [.ref 130]) (x := m_X4_advance) (as := [.ref 130]) (rest := []) rfl rfl rfl rfl h ?_
    intro I1 L1 h
    show dd_Rn (e + 16) m_X9_readBoy (21, [.ref 130, .null, .null, .null, .null], [], sM Ln I1 L1 c s) _
    refine dd_Rn.cI 2 (pc := 24) (ls := [.ref 130, .null, .null, .null, .null]) (st := [.ref 1000019, .ref 130]) (x := m_X4_takeWord) (as := [.ref 130, .ref 1000019]) (rest := []) rfl rfl rfl rfl h ?_
    intro x2 I2 L2 h
    show dd_Rn (e + 16) m_X9_readBoy (27, [.ref 130, .null, .null, .null, .null], [.int x2], sM Ln I2 L2 c s) _
    refine dd_Rn.ite 0 (c := x2 = 0) (A := (37, [.ref 130, .null, .null, .null, .null], [], sM Ln I2 L2 c s)) (B := (30, [.ref 130, .null, .null, .null, .null], [], sM Ln I2 L2 c s)) rfl (fun hc => ?_) (fun hc => ?_) (by omega)
    · have h := h.1 hc
      exact dd_Rn.retK 16 (pc := 102) (ls := [.ref 130, .int (-1), .int (-1), .int (-1), .null]) (st := [.int 0]) (M := sM Ln I2 L2 c s) (o := (none, .int 0, sM Ln I2 L2 c s)) rfl rfl h (by omega)
    · have h := h.2 hc
      refine dd_Rn.cI 1 (pc := 31) (ls := [.ref 130, .null, .null, .null, .null]) (st := [.ref 130]) (x := m_X9_takeOpenCell) (as := [.ref 130]) (rest := []) rfl rfl rfl rfl h ?_
      intro x3 I3 L3 h
      show dd_Rn (e + 16) m_X9_readBoy (34, [.ref 130, .null, .null, .null, .null], [.int x3], sM Ln I3 L3 c s) _
      refine dd_Rn.ite 4 (c := x3 = (-1)) (A := (69, [.ref 130, .int x3, .null, .null, .null], [], sM Ln I3 L3 c s)) (B := (44, [.ref 130, .int x3, .null, .null, .null], [], sM Ln I3 L3 c s)) rfl (fun hc => ?_) (fun hc => ?_) (by omega)
      · have h := h.1 hc
        exact dd_Rn.retK 11 (pc := 102) (ls := [.ref 130, .int x3, .int (-1), .int (-1), .null]) (st := [.int 0]) (M := sM Ln I3 L3 c s) (o := (none, .int 0, sM Ln I3 L3 c s)) rfl rfl h (by omega)
      · have h := h.2 hc
        refine dd_Rn.cI 2 (pc := 47) (ls := [.ref 130, .int x3, .null, .null, .null]) (st := [.ref 1000020, .ref 130]) (x := m_X4_takeWord) (as := [.ref 130, .ref 1000020]) (rest := []) rfl rfl rfl rfl h ?_
        intro x4 I4 L4 h
        show dd_Rn (e + 16) m_X9_readBoy (50, [.ref 130, .int x3, .null, .null, .null], [.int x4], sM Ln I4 L4 c s) _
        refine dd_Rn.ite 0 (c := x4 = 0) (A := (69, [.ref 130, .int x3, .null, .null, .null], [], sM Ln I4 L4 c s)) (B := (53, [.ref 130, .int x3, .null, .null, .null], [], sM Ln I4 L4 c s)) rfl (fun hc => ?_) (fun hc => ?_) (by omega)
        · have h := h.1 hc
          exact dd_Rn.retK 11 (pc := 102) (ls := [.ref 130, .int x3, .int (-1), .int (-1), .null]) (st := [.int 0]) (M := sM Ln I4 L4 c s) (o := (none, .int 0, sM Ln I4 L4 c s)) rfl rfl h (by omega)
        · have h := h.2 hc
          refine dd_Rn.cI 6 (pc := 63) (ls := [.ref 130, .int x3, .null, .null, .null]) (st := [.int ((I4 1 9) - 1), .ref 130]) (x := m_X4_takeNumber) (as := [.ref 130, .int ((I4 1 9) - 1)]) (rest := []) rfl rfl rfl rfl h ?_
          intro x5 I5 L5 h
          show dd_Rn (e + 16) m_X9_readBoy (66, [.ref 130, .int x3, .null, .null, .null], [.int x5], sM Ln I5 L5 c s) _
          refine dd_Rn.ite 4 (c := x5 = (-1)) (A := (94, [.ref 130, .int x3, .int x5, .null, .null], [], sM Ln I5 L5 c s)) (B := (76, [.ref 130, .int x3, .int x5, .null, .null], [], sM Ln I5 L5 c s)) rfl (fun hc => ?_) (fun hc => ?_) (by omega)
          · have h := h.1 hc
            exact dd_Rn.retK 6 (pc := 102) (ls := [.ref 130, .int x3, .int x5, .int (-1), .null]) (st := [.int 0]) (M := sM Ln I5 L5 c s) (o := (none, .int 0, sM Ln I5 L5 c s)) rfl rfl h (by omega)
          · have h := h.2 hc
            refine dd_Rn.cI 2 (pc := 79) (ls := [.ref 130, .int x3, .int x5, .null, .null]) (st := [.ref 1000021, .ref 130]) (x := m_X4_takeWord) (as := [.ref 130, .ref 1000021]) (rest := []) rfl rfl rfl rfl h ?_
            intro x6 I6 L6 h
            show dd_Rn (e + 16) m_X9_readBoy (82, [.ref 130, .int x3, .int x5, .null, .null], [.int x6], sM Ln I6 L6 c s) _
            refine dd_Rn.ite 0 (c := x6 = 0) (A := (94, [.ref 130, .int x3, .int x5, .null, .null], [], sM Ln I6 L6 c s)) (B := (85, [.ref 130, .int x3, .int x5, .null, .null], [], sM Ln I6 L6 c s)) rfl (fun hc => ?_) (fun hc => ?_) (by omega)
            · have h := h.1 hc
              exact dd_Rn.retK 6 (pc := 102) (ls := [.ref 130, .int x3, .int x5, .int (-1), .null]) (st := [.int 0]) (M := sM Ln I6 L6 c s) (o := (none, .int 0, sM Ln I6 L6 c s)) rfl rfl h (by omega)
            · have h := h.2 hc
              refine dd_Rn.cI 2 (pc := 88) (ls := [.ref 130, .int x3, .int x5, .null, .null]) (st := [.int 15, .ref 130]) (x := m_X4_takeNumber) (as := [.ref 130, .int 15]) (rest := []) rfl rfl rfl rfl h ?_
              intro x7 I7 L7 h
              show dd_Rn (e + 16) m_X9_readBoy (91, [.ref 130, .int x3, .int x5, .null, .null], [.int x7], sM Ln I7 L7 c s) _
              refine dd_Rn.ite 4 (c := x7 = (-1)) (A := (101, [.ref 130, .int x3, .int x5, .int x7, .null], [], sM Ln I7 L7 c s)) (B := (103, [.ref 130, .int x3, .int x5, .int x7, .null], [], sM Ln I7 L7 c s)) rfl (fun hc => ?_) (fun hc => ?_) (by omega)
              · have h := h.1 hc
                exact dd_Rn.retK 1 (pc := 102) (ls := [.ref 130, .int x3, .int x5, .int x7, .null]) (st := [.int 0]) (M := sM Ln I7 L7 c s) (o := (none, .int 0, sM Ln I7 L7 c s)) rfl rfl h (by omega)
              · have h := h.2 hc
                obtain ⟨hc, h⟩ := h
                refine dd_Rn.go 16 (cf' := (135, [.ref 130, .int x3, .int x5, .int x7, .int (I7 1 10)], [.int x5, .int (I7 1 10), .ref 5], sM Ln (dd_u I7 1 (upd (I7 1) 10 ((I7 1 10) + 1))) L7 c s)) rfl ?_ (by omega)
                refine dd_Rn.ci (fun j0 => (135, [.ref 130, .int x3, .int x5, .int x7, .int (I7 1 10)], [.int x5, .int j0, .ref 5], sM Ln (dd_u I7 1 (upd (I7 1) 10 ((I7 1 10) + 1))) L7 c s)) (fun j0 => (136, [.ref 130, .int x3, .int x5, .int x7, .int (I7 1 10)], [], sM Ln (dd_u (dd_u I7 1 (upd (I7 1) 10 ((I7 1 10) + 1))) 5 (upd (I7 5) (tn j0) x5)) L7 c s)) (fun j0 => 0 ≤ j0 ∧ tn j0 < 6) (I7 1 10) (fun j0 hc h => dd_Rn.chk 0 (c := 0 ≤ j0 ∧ tn j0 < 6) (A := (136, [.ref 130, .int x3, .int x5, .int x7, .int (I7 1 10)], [], sM Ln (dd_u (dd_u I7 1 (upd (I7 1) 10 ((I7 1 10) + 1))) 5 (upd (I7 5) (tn j0) x5)) L7 c s)) rfl hc h (by omega)) hc ?_
                refine dd_Rn.se (cf := (136, [.ref 130, .int x3, .int x5, .int x7, .int (I7 1 10)], [], sM Ln (dd_u (dd_u I7 1 (upd (I7 1) 10 ((I7 1 10) + 1))) 5 (upd (I7 5) (tn (I7 1 10)) x5)) L7 c s)) ?_
                obtain ⟨hc, h⟩ := h
                refine dd_Rn.go 5 (cf' := (146, [.ref 130, .int x3, .int x5, .int x7, .int (I7 1 10)], [.int x7, .int (I7 1 10), .ref 6], sM Ln (dd_u (dd_u I7 1 (upd (I7 1) 10 ((I7 1 10) + 1))) 5 (upd (I7 5) (tn (I7 1 10)) x5)) L7 c s)) rfl ?_ (by omega)
                refine dd_Rn.ci (fun j0 => (146, [.ref 130, .int x3, .int x5, .int x7, .int (I7 1 10)], [.int x7, .int j0, .ref 6], sM Ln (dd_u (dd_u I7 1 (upd (I7 1) 10 ((I7 1 10) + 1))) 5 (upd (I7 5) (tn (I7 1 10)) x5)) L7 c s)) (fun j0 => (147, [.ref 130, .int x3, .int x5, .int x7, .int (I7 1 10)], [], sM Ln (dd_u (dd_u (dd_u I7 1 (upd (I7 1) 10 ((I7 1 10) + 1))) 5 (upd (I7 5) (tn (I7 1 10)) x5)) 6 (upd (I7 6) (tn j0) x7)) L7 c s)) (fun j0 => 0 ≤ j0 ∧ tn j0 < 6) (I7 1 10) (fun j0 hc h => dd_Rn.chk 0 (c := 0 ≤ j0 ∧ tn j0 < 6) (A := (147, [.ref 130, .int x3, .int x5, .int x7, .int (I7 1 10)], [], sM Ln (dd_u (dd_u (dd_u I7 1 (upd (I7 1) 10 ((I7 1 10) + 1))) 5 (upd (I7 5) (tn (I7 1 10)) x5)) 6 (upd (I7 6) (tn j0) x7)) L7 c s)) rfl hc h (by omega)) hc ?_
                refine dd_Rn.se (cf := (147, [.ref 130, .int x3, .int x5, .int x7, .int (I7 1 10)], [], sM Ln (dd_u (dd_u (dd_u I7 1 (upd (I7 1) 10 ((I7 1 10) + 1))) 5 (upd (I7 5) (tn (I7 1 10)) x5)) 6 (upd (I7 6) (tn (I7 1 10)) x7)) L7 c s)) ?_
                obtain ⟨hc, h⟩ := h
                refine dd_Rn.go 5 (cf' := (157, [.ref 130, .int x3, .int x5, .int x7, .int (I7 1 10)], [.int 0, .int (I7 1 10), .ref 7], sM Ln (dd_u (dd_u (dd_u I7 1 (upd (I7 1) 10 ((I7 1 10) + 1))) 5 (upd (I7 5) (tn (I7 1 10)) x5)) 6 (upd (I7 6) (tn (I7 1 10)) x7)) L7 c s)) rfl ?_ (by omega)
                refine dd_Rn.ci (fun j0 => (157, [.ref 130, .int x3, .int x5, .int x7, .int (I7 1 10)], [.int 0, .int j0, .ref 7], sM Ln (dd_u (dd_u (dd_u I7 1 (upd (I7 1) 10 ((I7 1 10) + 1))) 5 (upd (I7 5) (tn (I7 1 10)) x5)) 6 (upd (I7 6) (tn (I7 1 10)) x7)) L7 c s)) (fun j0 => (158, [.ref 130, .int x3, .int x5, .int x7, .int (I7 1 10)], [], sM Ln (dd_u (dd_u (dd_u (dd_u I7 1 (upd (I7 1) 10 ((I7 1 10) + 1))) 5 (upd (I7 5) (tn (I7 1 10)) x5)) 6 (upd (I7 6) (tn (I7 1 10)) x7)) 7 (upd (I7 7) (tn j0) 0)) L7 c s)) (fun j0 => 0 ≤ j0 ∧ tn j0 < 6) (I7 1 10) (fun j0 hc h => dd_Rn.chk 0 (c := 0 ≤ j0 ∧ tn j0 < 6) (A := (158, [.ref 130, .int x3, .int x5, .int x7, .int (I7 1 10)], [], sM Ln (dd_u (dd_u (dd_u (dd_u I7 1 (upd (I7 1) 10 ((I7 1 10) + 1))) 5 (upd (I7 5) (tn (I7 1 10)) x5)) 6 (upd (I7 6) (tn (I7 1 10)) x7)) 7 (upd (I7 7) (tn j0) 0)) L7 c s)) rfl hc h (by omega)) hc ?_
                refine dd_Rn.se (cf := (158, [.ref 130, .int x3, .int x5, .int x7, .int (I7 1 10)], [], sM Ln (dd_u (dd_u (dd_u (dd_u I7 1 (upd (I7 1) 10 ((I7 1 10) + 1))) 5 (upd (I7 5) (tn (I7 1 10)) x5)) 6 (upd (I7 6) (tn (I7 1 10)) x7)) 7 (upd (I7 7) (tn (I7 1 10)) 0)) L7 c s)) ?_
                refine dd_Rn.cV 4 (pc := 165) (ls := [.ref 130, .int x3, .int x5, .int x7, .int (I7 1 10)]) (st := [.int x3, .int (I7 1 10), .ref 1]) (x := m_X8_putBoy) (as := [.ref 1, .int (I7 1 10), .int x3]) (rest := []) rfl rfl rfl rfl h ?_
                intro I8 L8 h
                show dd_Rn (e + 16) m_X9_readBoy (168, [.ref 130, .int x3, .int x5, .int x7, .int (I7 1 10)], [], sM Ln I8 L8 c s) _
                exact dd_Rn.retK 1 (pc := 169) (ls := [.ref 130, .int x3, .int x5, .int x7, .int (I7 1 10)]) (st := [.int 1]) (M := sM Ln I8 L8 c s) (o := (none, .int 1, sM Ln I8 L8 c s)) rfl rfl h (by omega)
  · have h := h.2 hc
    refine dd_Rn.cI 1 (pc := 13) (ls := [.ref 130, .null, .null, .null, .null]) (st := [.ref 130]) (x := m_X4_refuse) (as := [.ref 130]) (rest := []) rfl rfl rfl rfl h ?_
    intro x9 I9 L9 h
    show dd_Rn (e + 16) m_X9_readBoy (16, [.ref 130, .null, .null, .null, .null], [.int x9], sM Ln I9 L9 c s) _
    obtain ⟨hc, h⟩ := h
    exact dd_Rn.retB 0 (cf' := (16, [.ref 130, .null, .null, .null, .null], [.int x9], sM Ln I9 L9 c s)) (v := x9) rfl rfl hc h (by omega)

theorem w_X9_takeOpenCell_0 {Ln d c s : Nat} {I : Nat → Nat → Int32} {L : Nat → Nat → Int64} {Q : dd_O → Prop} (hd : 28 ≤ d) (h : dd_Ev (d - 1) m_X4_numberUpTo [.ref 130, .int 63] (sM Ln I L c s) (dd_RI Ln c s (fun x1 I1 L1 => dd_Ev (d - 1) m_X8_isOpen [.ref 1, .int x1] (sM Ln I1 L1 c s) (dd_RI Ln c s (fun x2 I2 L2 => ((x2 = 0 → dd_Ev (d - 1) m_X4_refuse [.ref 130] (sM Ln I2 L2 c s) (dd_RI Ln c s (fun x3 I3 L3 => Q (none, .int (-1), sM Ln I3 L3 c s)))) ∧ (¬ (x2 = 0) → dd_Ev (d - 1) m_X4_takeNumber [.ref 130, .int 63] (sM Ln I2 L2 c s) (dd_RI Ln c s (fun x4 I4 L4 => Q (none, .int x4, sM Ln I4 L4 c s)))))))))) : dd_Ev d m_X9_takeOpenCell [.ref 130] (sM Ln I L c s) Q := by
  obtain ⟨e, rfl⟩ : ∃ e, d = e + 16 := ⟨d - 16, by omega⟩
  show dd_Rn (e + 16) m_X9_takeOpenCell (0, [.ref 130], [], sM Ln I L c s) Q
  refine dd_Rn.cI 4 (pc := 7) (ls := [.ref 130]) (st := [.int 63, .ref 130, .ref 1]) (x := m_X4_numberUpTo) (as := [.ref 130, .int 63]) (rest := [.ref 1]) rfl rfl rfl rfl h ?_
  intro x1 I1 L1 h
  show dd_Rn (e + 16) m_X9_takeOpenCell (10, [.ref 130], [.int x1, .ref 1], sM Ln I1 L1 c s) _
  refine dd_Rn.cI 0 (pc := 10) (ls := [.ref 130]) (st := [.int x1, .ref 1]) (x := m_X8_isOpen) (as := [.ref 1, .int x1]) (rest := []) rfl rfl rfl rfl h ?_
  intro x2 I2 L2 h
  show dd_Rn (e + 16) m_X9_takeOpenCell (13, [.ref 130], [.int x2], sM Ln I2 L2 c s) _
  refine dd_Rn.ite 0 (c := x2 = 0) (A := (16, [.ref 130], [], sM Ln I2 L2 c s)) (B := (23, [.ref 130], [], sM Ln I2 L2 c s)) rfl (fun hc => ?_) (fun hc => ?_) (by omega)
  · have h := h.1 hc
    refine dd_Rn.cI 1 (pc := 17) (ls := [.ref 130]) (st := [.ref 130]) (x := m_X4_refuse) (as := [.ref 130]) (rest := []) rfl rfl rfl rfl h ?_
    intro x3 I3 L3 h
    show dd_Rn (e + 16) m_X9_takeOpenCell (20, [.ref 130], [.int x3], sM Ln I3 L3 c s) _
    exact dd_Rn.retK 2 (pc := 22) (ls := [.ref 130]) (st := [.int (-1)]) (M := sM Ln I3 L3 c s) (o := (none, .int (-1), sM Ln I3 L3 c s)) rfl rfl h (by omega)
  · have h := h.2 hc
    refine dd_Rn.cI 2 (pc := 26) (ls := [.ref 130]) (st := [.int 63, .ref 130]) (x := m_X4_takeNumber) (as := [.ref 130, .int 63]) (rest := []) rfl rfl rfl rfl h ?_
    intro x4 I4 L4 h
    show dd_Rn (e + 16) m_X9_takeOpenCell (29, [.ref 130], [.int x4], sM Ln I4 L4 c s) _
    exact dd_Rn.retK 0 (pc := 29) (ls := [.ref 130]) (st := [.int x4]) (M := sM Ln I4 L4 c s) (o := (none, .int x4, sM Ln I4 L4 c s)) rfl rfl h (by omega)

theorem w_X9_readTrees_0 {Ln d c s : Nat} {I : Nat → Nat → Int32} {L : Nat → Nat → Int64} {Q : dd_O → Prop} (hd : 28 ≤ d) (h : dd_Ev (d - 1) m_X4_advance [.ref 130] (sM Ln I L c s) (dd_RV Ln c s (fun I1 L1 => dd_Ev (d - 1) m_X4_numberUpTo [.ref 130, .int 63] (sM Ln I1 L1 c s) (dd_RI Ln c s (fun x2 I2 L2 => ((x2 = (-1) → dd_Ev (d - 1) m_X4_refuse [.ref 130] (sM Ln I2 L2 c s) (dd_RI Ln c s (fun x3 I3 L3 => ((x3 = 0 ∨ x3 = 1) ∧ Q (none, .int x3, sM Ln I3 L3 c s))))) ∧ (¬ (x2 = (-1)) → dd_Ev (d - 1) m_X8_canPlant [.ref 1, .int x2] (sM Ln I2 L2 c s) (dd_RI Ln c s (fun x4 I4 L4 => ((x4 = 0 → dd_Ev (d - 1) m_X4_refuse [.ref 130] (sM Ln I4 L4 c s) (dd_RI Ln c s (fun x5 I5 L5 => ((x5 = 0 ∨ x5 = 1) ∧ Q (none, .int x5, sM Ln I5 L5 c s))))) ∧ (¬ (x4 = 0) → dd_Ev (d - 1) m_X4_advance [.ref 130] (sM Ln I4 (dd_u L4 1 (vp_updL (L4 1) 0 ((L4 1 0) ||| ((Int64.ofNat 1) <<< (x2.toInt64 &&& 63))))) c s) (dd_RV Ln c s (fun I6 L6 => Q (none, .int 1, sM Ln I6 L6 c s)))))))))))))) : dd_Ev d m_X9_readTrees [.ref 130] (sM Ln I L c s) Q := by
  obtain ⟨e, rfl⟩ : ∃ e, d = e + 16 := ⟨d - 16, by omega⟩
  show dd_Rn (e + 16) m_X9_readTrees (0, [.ref 130, .null], [], sM Ln I L c s) Q
  refine dd_Rn.cV 1 (pc := 1) (ls := [.ref 130, .null]) (st := [.ref 130]) (x := m_X4_advance) (as := [.ref 130]) (rest := []) rfl rfl rfl rfl h ?_
  intro I1 L1 h
  show dd_Rn (e + 16) m_X9_readTrees (4, [.ref 130, .null], [], sM Ln I1 L1 c s) _
  refine dd_Rn.cI 2 (pc := 7) (ls := [.ref 130, .null]) (st := [.int 63, .ref 130]) (x := m_X4_numberUpTo) (as := [.ref 130, .int 63]) (rest := []) rfl rfl rfl rfl h ?_
  intro x2 I2 L2 h
  show dd_Rn (e + 16) m_X9_readTrees (10, [.ref 130, .null], [.int x2], sM Ln I2 L2 c s) _
  refine dd_Rn.ite 3 (c := x2 = (-1)) (A := (27, [.ref 130, .int x2], [], sM Ln I2 L2 c s)) (B := (16, [.ref 130, .int x2], [], sM Ln I2 L2 c s)) rfl (fun hc => ?_) (fun hc => ?_) (by omega)
  · have h := h.1 hc
    refine dd_Rn.cI 1 (pc := 28) (ls := [.ref 130, .int x2]) (st := [.ref 130]) (x := m_X4_refuse) (as := [.ref 130]) (rest := []) rfl rfl rfl rfl h ?_
    intro x3 I3 L3 h
    show dd_Rn (e + 16) m_X9_readTrees (31, [.ref 130, .int x2], [.int x3], sM Ln I3 L3 c s) _
    obtain ⟨hc, h⟩ := h
    exact dd_Rn.retB 0 (cf' := (31, [.ref 130, .int x2], [.int x3], sM Ln I3 L3 c s)) (v := x3) rfl rfl hc h (by omega)
  · have h := h.2 hc
    refine dd_Rn.cI 3 (pc := 21) (ls := [.ref 130, .int x2]) (st := [.int x2, .ref 1]) (x := m_X8_canPlant) (as := [.ref 1, .int x2]) (rest := []) rfl rfl rfl rfl h ?_
    intro x4 I4 L4 h
    show dd_Rn (e + 16) m_X9_readTrees (24, [.ref 130, .int x2], [.int x4], sM Ln I4 L4 c s) _
    refine dd_Rn.ite 0 (c := x4 = 0) (A := (27, [.ref 130, .int x2], [], sM Ln I4 L4 c s)) (B := (32, [.ref 130, .int x2], [], sM Ln I4 L4 c s)) rfl (fun hc => ?_) (fun hc => ?_) (by omega)
    · have h := h.1 hc
      refine dd_Rn.cI 1 (pc := 28) (ls := [.ref 130, .int x2]) (st := [.ref 130]) (x := m_X4_refuse) (as := [.ref 130]) (rest := []) rfl rfl rfl rfl h ?_
      intro x5 I5 L5 h
      show dd_Rn (e + 16) m_X9_readTrees (31, [.ref 130, .int x2], [.int x5], sM Ln I5 L5 c s) _
      obtain ⟨hc, h⟩ := h
      exact dd_Rn.retB 0 (cf' := (31, [.ref 130, .int x2], [.int x5], sM Ln I5 L5 c s)) (v := x5) rfl rfl hc h (by omega)
    · have h := h.2 hc
      refine dd_Rn.cV 10 (pc := 48) (ls := [.ref 130, .int x2]) (st := [.ref 130]) (x := m_X4_advance) (as := [.ref 130]) (rest := []) rfl rfl rfl rfl h ?_
      intro I6 L6 h
      show dd_Rn (e + 16) m_X9_readTrees (51, [.ref 130, .int x2], [], sM Ln I6 L6 c s) _
      exact dd_Rn.retK 1 (pc := 52) (ls := [.ref 130, .int x2]) (st := [.int 1]) (M := sM Ln I6 L6 c s) (o := (none, .int 1, sM Ln I6 L6 c s)) rfl rfl h (by omega)

theorem w_X9_readFerns_0 {Ln d c s : Nat} {I : Nat → Nat → Int32} {L : Nat → Nat → Int64} {Q : dd_O → Prop} (hd : 28 ≤ d) (h : dd_Ev (d - 1) m_X4_advance [.ref 130] (sM Ln I L c s) (dd_RV Ln c s (fun I1 L1 => dd_Ev (d - 1) m_X4_takeNumber [.ref 130, .int 63] (sM Ln I1 L1 c s) (dd_RI Ln c s (fun x2 I2 L2 => ((x2 = (-1) → Q (none, .int 0, sM Ln I2 L2 c s)) ∧ (¬ (x2 = (-1)) → dd_Ev (d - 1) m_X4_takeNumber [.ref 130, .int 9] (sM Ln I2 L2 c s) (dd_RI Ln c s (fun x3 I3 L3 => ((x3 = (-1) → Q (none, .int 0, sM Ln I3 L3 c s)) ∧ (¬ (x3 = (-1)) → ((0 ≤ x2 ∧ tn x2 < 64) ∧ Q (none, .int 1, sM Ln (dd_u I3 2 (upd (I3 2) (tn x2) x3)) L3 c s))))))))))))) : dd_Ev d m_X9_readFerns [.ref 130] (sM Ln I L c s) Q := by
  obtain ⟨e, rfl⟩ : ∃ e, d = e + 16 := ⟨d - 16, by omega⟩
  show dd_Rn (e + 16) m_X9_readFerns (0, [.ref 130, .null, .null], [], sM Ln I L c s) Q
  refine dd_Rn.cV 1 (pc := 1) (ls := [.ref 130, .null, .null]) (st := [.ref 130]) (x := m_X4_advance) (as := [.ref 130]) (rest := []) rfl rfl rfl rfl h ?_
  intro I1 L1 h
  show dd_Rn (e + 16) m_X9_readFerns (4, [.ref 130, .null, .null], [], sM Ln I1 L1 c s) _
  refine dd_Rn.cI 2 (pc := 7) (ls := [.ref 130, .null, .null]) (st := [.int 63, .ref 130]) (x := m_X4_takeNumber) (as := [.ref 130, .int 63]) (rest := []) rfl rfl rfl rfl h ?_
  intro x2 I2 L2 h
  show dd_Rn (e + 16) m_X9_readFerns (10, [.ref 130, .null, .null], [.int x2], sM Ln I2 L2 c s) _
  refine dd_Rn.ite 3 (c := x2 = (-1)) (A := (16, [.ref 130, .int x2, .null], [], sM Ln I2 L2 c s)) (B := (20, [.ref 130, .int x2, .null], [], sM Ln I2 L2 c s)) rfl (fun hc => ?_) (fun hc => ?_) (by omega)
  · have h := h.1 hc
    exact dd_Rn.retK 7 (pc := 33) (ls := [.ref 130, .int x2, .int (-1)]) (st := [.int 0]) (M := sM Ln I2 L2 c s) (o := (none, .int 0, sM Ln I2 L2 c s)) rfl rfl h (by omega)
  · have h := h.2 hc
    refine dd_Rn.cI 2 (pc := 23) (ls := [.ref 130, .int x2, .null]) (st := [.int 9, .ref 130]) (x := m_X4_takeNumber) (as := [.ref 130, .int 9]) (rest := []) rfl rfl rfl rfl h ?_
    intro x3 I3 L3 h
    show dd_Rn (e + 16) m_X9_readFerns (26, [.ref 130, .int x2, .null], [.int x3], sM Ln I3 L3 c s) _
    refine dd_Rn.ite 3 (c := x3 = (-1)) (A := (32, [.ref 130, .int x2, .int x3], [], sM Ln I3 L3 c s)) (B := (34, [.ref 130, .int x2, .int x3], [], sM Ln I3 L3 c s)) rfl (fun hc => ?_) (fun hc => ?_) (by omega)
    · have h := h.1 hc
      exact dd_Rn.retK 1 (pc := 33) (ls := [.ref 130, .int x2, .int x3]) (st := [.int 0]) (M := sM Ln I3 L3 c s) (o := (none, .int 0, sM Ln I3 L3 c s)) rfl rfl h (by omega)
    · have h := h.2 hc
      obtain ⟨hc, h⟩ := h
      refine dd_Rn.chk 5 (c := 0 ≤ x2 ∧ tn x2 < 64) (A := (44, [.ref 130, .int x2, .int x3], [], sM Ln (dd_u I3 2 (upd (I3 2) (tn x2) x3)) L3 c s)) rfl hc ?_ (by omega)
      exact dd_Rn.retK 1 (pc := 45) (ls := [.ref 130, .int x2, .int x3]) (st := [.int 1]) (M := sM Ln (dd_u I3 2 (upd (I3 2) (tn x2) x3)) L3 c s) (o := (none, .int 1, sM Ln (dd_u I3 2 (upd (I3 2) (tn x2) x3)) L3 c s)) rfl rfl h (by omega)

theorem w_X9_readFire_0 {Ln d c s : Nat} {I : Nat → Nat → Int32} {L : Nat → Nat → Int64} {Q : dd_O → Prop} (hd : 28 ≤ d) (h : dd_Ev (d - 1) m_X4_advance [.ref 130] (sM Ln I L c s) (dd_RV Ln c s (fun I1 L1 => dd_Ev (d - 1) m_X9_takeOpenCell [.ref 130] (sM Ln I1 L1 c s) (dd_RI Ln c s (fun x2 I2 L2 => ((x2 = (-1) → Q (none, .int 0, sM Ln I2 L2 c s)) ∧ (¬ (x2 = (-1)) → dd_Ev (d - 1) m_X8_putFire [.ref 1, .int x2] (sM Ln I2 L2 c s) (dd_RV Ln c s (fun I3 L3 => Q (none, .int 1, sM Ln I3 L3 c s)))))))))) : dd_Ev d m_X9_readFire [.ref 130] (sM Ln I L c s) Q := by
  obtain ⟨e, rfl⟩ : ∃ e, d = e + 16 := ⟨d - 16, by omega⟩
  show dd_Rn (e + 16) m_X9_readFire (0, [.ref 130, .null], [], sM Ln I L c s) Q
  refine dd_Rn.cV 1 (pc := 1) (ls := [.ref 130, .null]) (st := [.ref 130]) (x := m_X4_advance) (as := [.ref 130]) (rest := []) rfl rfl rfl rfl h ?_
  intro I1 L1 h
  show dd_Rn (e + 16) m_X9_readFire (4, [.ref 130, .null], [], sM Ln I1 L1 c s) _
  refine dd_Rn.cI 1 (pc := 5) (ls := [.ref 130, .null]) (st := [.ref 130]) (x := m_X9_takeOpenCell) (as := [.ref 130]) (rest := []) rfl rfl rfl rfl h ?_
  intro x2 I2 L2 h
  show dd_Rn (e + 16) m_X9_readFire (8, [.ref 130, .null], [.int x2], sM Ln I2 L2 c s) _
  refine dd_Rn.ite 3 (c := x2 = (-1)) (A := (14, [.ref 130, .int x2], [], sM Ln I2 L2 c s)) (B := (16, [.ref 130, .int x2], [], sM Ln I2 L2 c s)) rfl (fun hc => ?_) (fun hc => ?_) (by omega)
  · have h := h.1 hc
    exact dd_Rn.retK 1 (pc := 15) (ls := [.ref 130, .int x2]) (st := [.int 0]) (M := sM Ln I2 L2 c s) (o := (none, .int 0, sM Ln I2 L2 c s)) rfl rfl h (by omega)
  · have h := h.2 hc
    refine dd_Rn.cV 3 (pc := 21) (ls := [.ref 130, .int x2]) (st := [.int x2, .ref 1]) (x := m_X8_putFire) (as := [.ref 1, .int x2]) (rest := []) rfl rfl rfl rfl h ?_
    intro I3 L3 h
    show dd_Rn (e + 16) m_X9_readFire (24, [.ref 130, .int x2], [], sM Ln I3 L3 c s) _
    exact dd_Rn.retK 1 (pc := 25) (ls := [.ref 130, .int x2]) (st := [.int 1]) (M := sM Ln I3 L3 c s) (o := (none, .int 1, sM Ln I3 L3 c s)) rfl rfl h (by omega)

theorem w_X9_readSetting_0 {Ln d c s : Nat} {I : Nat → Nat → Int32} {L : Nat → Nat → Int64} {Q : dd_O → Prop} (hd : 28 ≤ d) (h : dd_Ev (d - 1) m_X4_isWord [.ref 130, .ref 1000025] (sM Ln I L c s) (dd_RI Ln c s (fun x1 I1 L1 => ((x1 = 0 → dd_Ev (d - 1) m_X4_isWord [.ref 130, .ref 1000026] (sM Ln I1 L1 c s) (dd_RI Ln c s (fun x2 I2 L2 => ((x2 = 0 → dd_Ev (d - 1) m_X4_isWord [.ref 130, .ref 1000027] (sM Ln I2 L2 c s) (dd_RI Ln c s (fun x3 I3 L3 => ((x3 = 0 → dd_Ev (d - 1) m_X4_isWord [.ref 130, .ref 1000028] (sM Ln I3 L3 c s) (dd_RI Ln c s (fun x4 I4 L4 => ((x4 = 0 → dd_Ev (d - 1) m_X4_refuse [.ref 130] (sM Ln I4 L4 c s) (dd_RI Ln c s (fun x5 I5 L5 => ((x5 = 0 ∨ x5 = 1) ∧ Q (none, .int x5, sM Ln I5 L5 c s))))) ∧ (¬ (x4 = 0) → dd_Ev (d - 1) m_X4_advance [.ref 130] (sM Ln I4 L4 c s) (dd_RV Ln c s (fun I6 L6 => dd_Ev (d - 1) m_X4_takeNumber [.ref 130, .int 999] (sM Ln I6 L6 c s) (dd_RI Ln c s (fun x7 I7 L7 => ((x7 = (-1) → Q (none, .int 0, sM Ln (dd_u I7 1 (upd (I7 1) 17 x7)) L7 c s)) ∧ (¬ (x7 = (-1)) → Q (none, .int 1, sM Ln (dd_u I7 1 (upd (I7 1) 17 x7)) L7 c s)))))))))))) ∧ (¬ (x3 = 0) → dd_Ev (d - 1) m_X4_advance [.ref 130] (sM Ln I3 L3 c s) (dd_RV Ln c s (fun I8 L8 => dd_Ev (d - 1) m_X4_takeNumber [.ref 130, .int 7] (sM Ln I8 L8 c s) (dd_RI Ln c s (fun x9 I9 L9 => ((x9 = (-1) → Q (none, .int 0, sM Ln (dd_u I9 1 (upd (I9 1) 16 x9)) L9 c s)) ∧ (¬ (x9 = (-1)) → Q (none, .int 1, sM Ln (dd_u I9 1 (upd (I9 1) 16 x9)) L9 c s)))))))))))) ∧ (¬ (x2 = 0) → dd_Ev (d - 1) m_X4_advance [.ref 130] (sM Ln I2 L2 c s) (dd_RV Ln c s (fun I10 L10 => dd_Ev (d - 1) m_X4_takeNumber [.ref 130, .int 100] (sM Ln I10 L10 c s) (dd_RI Ln c s (fun x11 I11 L11 => ((x11 = (-1) → Q (none, .int 0, sM Ln (dd_u I11 1 (upd (I11 1) 15 x11)) L11 c s)) ∧ (¬ (x11 = (-1)) → Q (none, .int 1, sM Ln (dd_u I11 1 (upd (I11 1) 15 x11)) L11 c s)))))))))))) ∧ (¬ (x1 = 0) → dd_Ev (d - 1) m_X4_advance [.ref 130] (sM Ln I1 L1 c s) (dd_RV Ln c s (fun I12 L12 => dd_Ev (d - 1) m_X4_takeNumber [.ref 130, .int 15] (sM Ln I12 L12 c s) (dd_RI Ln c s (fun x13 I13 L13 => ((x13 = (-1) → Q (none, .int 0, sM Ln (dd_u I13 1 (upd (I13 1) 14 x13)) L13 c s)) ∧ (¬ (x13 = (-1)) → Q (none, .int 1, sM Ln (dd_u I13 1 (upd (I13 1) 14 x13)) L13 c s)))))))))))) : dd_Ev d m_X9_readSetting [.ref 130] (sM Ln I L c s) Q := by
  obtain ⟨e, rfl⟩ : ∃ e, d = e + 16 := ⟨d - 16, by omega⟩
  show dd_Rn (e + 16) m_X9_readSetting (0, [.ref 130], [], sM Ln I L c s) Q
  refine dd_Rn.cI 2 (pc := 3) (ls := [.ref 130]) (st := [.ref 1000025, .ref 130]) (x := m_X4_isWord) (as := [.ref 130, .ref 1000025]) (rest := []) rfl rfl rfl rfl h ?_
  intro x1 I1 L1 h
  show dd_Rn (e + 16) m_X9_readSetting (6, [.ref 130], [.int x1], sM Ln I1 L1 c s) _
  refine dd_Rn.ite 0 (c := x1 = 0) (A := (43, [.ref 130], [], sM Ln I1 L1 c s)) (B := (9, [.ref 130], [], sM Ln I1 L1 c s)) rfl (fun hc => ?_) (fun hc => ?_) (by omega)
  · have h := h.1 hc
    refine dd_Rn.cI 2 (pc := 46) (ls := [.ref 130]) (st := [.ref 1000026, .ref 130]) (x := m_X4_isWord) (as := [.ref 130, .ref 1000026]) (rest := []) rfl rfl rfl rfl h ?_
    intro x2 I2 L2 h
    show dd_Rn (e + 16) m_X9_readSetting (49, [.ref 130], [.int x2], sM Ln I2 L2 c s) _
    refine dd_Rn.ite 0 (c := x2 = 0) (A := (86, [.ref 130], [], sM Ln I2 L2 c s)) (B := (52, [.ref 130], [], sM Ln I2 L2 c s)) rfl (fun hc => ?_) (fun hc => ?_) (by omega)
    · have h := h.1 hc
      refine dd_Rn.cI 2 (pc := 89) (ls := [.ref 130]) (st := [.ref 1000027, .ref 130]) (x := m_X4_isWord) (as := [.ref 130, .ref 1000027]) (rest := []) rfl rfl rfl rfl h ?_
      intro x3 I3 L3 h
      show dd_Rn (e + 16) m_X9_readSetting (92, [.ref 130], [.int x3], sM Ln I3 L3 c s) _
      refine dd_Rn.ite 0 (c := x3 = 0) (A := (129, [.ref 130], [], sM Ln I3 L3 c s)) (B := (95, [.ref 130], [], sM Ln I3 L3 c s)) rfl (fun hc => ?_) (fun hc => ?_) (by omega)
      · have h := h.1 hc
        refine dd_Rn.cI 2 (pc := 132) (ls := [.ref 130]) (st := [.ref 1000028, .ref 130]) (x := m_X4_isWord) (as := [.ref 130, .ref 1000028]) (rest := []) rfl rfl rfl rfl h ?_
        intro x4 I4 L4 h
        show dd_Rn (e + 16) m_X9_readSetting (135, [.ref 130], [.int x4], sM Ln I4 L4 c s) _
        refine dd_Rn.ite 0 (c := x4 = 0) (A := (173, [.ref 130], [], sM Ln I4 L4 c s)) (B := (138, [.ref 130], [], sM Ln I4 L4 c s)) rfl (fun hc => ?_) (fun hc => ?_) (by omega)
        · have h := h.1 hc
          refine dd_Rn.cI 1 (pc := 174) (ls := [.ref 130]) (st := [.ref 130]) (x := m_X4_refuse) (as := [.ref 130]) (rest := []) rfl rfl rfl rfl h ?_
          intro x5 I5 L5 h
          show dd_Rn (e + 16) m_X9_readSetting (177, [.ref 130], [.int x5], sM Ln I5 L5 c s) _
          obtain ⟨hc, h⟩ := h
          exact dd_Rn.retB 0 (cf' := (177, [.ref 130], [.int x5], sM Ln I5 L5 c s)) (v := x5) rfl rfl hc h (by omega)
        · have h := h.2 hc
          refine dd_Rn.cV 1 (pc := 139) (ls := [.ref 130]) (st := [.ref 130]) (x := m_X4_advance) (as := [.ref 130]) (rest := []) rfl rfl rfl rfl h ?_
          intro I6 L6 h
          show dd_Rn (e + 16) m_X9_readSetting (142, [.ref 130], [], sM Ln I6 L6 c s) _
          refine dd_Rn.cI 4 (pc := 150) (ls := [.ref 130]) (st := [.int 999, .ref 130, .ref 1]) (x := m_X4_takeNumber) (as := [.ref 130, .int 999]) (rest := [.ref 1]) rfl rfl rfl rfl h ?_
          intro x7 I7 L7 h
          show dd_Rn (e + 16) m_X9_readSetting (153, [.ref 130], [.int x7, .ref 1], sM Ln I7 L7 c s) _
          refine dd_Rn.ite 5 (c := x7 = (-1)) (A := (171, [.ref 130], [], sM Ln (dd_u I7 1 (upd (I7 1) 17 x7)) L7 c s)) (B := (167, [.ref 130], [], sM Ln (dd_u I7 1 (upd (I7 1) 17 x7)) L7 c s)) rfl (fun hc => ?_) (fun hc => ?_) (by omega)
          · have h := h.1 hc
            exact dd_Rn.retK 1 (pc := 172) (ls := [.ref 130]) (st := [.int 0]) (M := sM Ln (dd_u I7 1 (upd (I7 1) 17 x7)) L7 c s) (o := (none, .int 0, sM Ln (dd_u I7 1 (upd (I7 1) 17 x7)) L7 c s)) rfl rfl h (by omega)
          · have h := h.2 hc
            exact dd_Rn.retK 2 (pc := 172) (ls := [.ref 130]) (st := [.int 1]) (M := sM Ln (dd_u I7 1 (upd (I7 1) 17 x7)) L7 c s) (o := (none, .int 1, sM Ln (dd_u I7 1 (upd (I7 1) 17 x7)) L7 c s)) rfl rfl h (by omega)
      · have h := h.2 hc
        refine dd_Rn.cV 1 (pc := 96) (ls := [.ref 130]) (st := [.ref 130]) (x := m_X4_advance) (as := [.ref 130]) (rest := []) rfl rfl rfl rfl h ?_
        intro I8 L8 h
        show dd_Rn (e + 16) m_X9_readSetting (99, [.ref 130], [], sM Ln I8 L8 c s) _
        refine dd_Rn.cI 4 (pc := 106) (ls := [.ref 130]) (st := [.int 7, .ref 130, .ref 1]) (x := m_X4_takeNumber) (as := [.ref 130, .int 7]) (rest := [.ref 1]) rfl rfl rfl rfl h ?_
        intro x9 I9 L9 h
        show dd_Rn (e + 16) m_X9_readSetting (109, [.ref 130], [.int x9, .ref 1], sM Ln I9 L9 c s) _
        refine dd_Rn.ite 5 (c := x9 = (-1)) (A := (127, [.ref 130], [], sM Ln (dd_u I9 1 (upd (I9 1) 16 x9)) L9 c s)) (B := (123, [.ref 130], [], sM Ln (dd_u I9 1 (upd (I9 1) 16 x9)) L9 c s)) rfl (fun hc => ?_) (fun hc => ?_) (by omega)
        · have h := h.1 hc
          exact dd_Rn.retK 1 (pc := 128) (ls := [.ref 130]) (st := [.int 0]) (M := sM Ln (dd_u I9 1 (upd (I9 1) 16 x9)) L9 c s) (o := (none, .int 0, sM Ln (dd_u I9 1 (upd (I9 1) 16 x9)) L9 c s)) rfl rfl h (by omega)
        · have h := h.2 hc
          exact dd_Rn.retK 2 (pc := 128) (ls := [.ref 130]) (st := [.int 1]) (M := sM Ln (dd_u I9 1 (upd (I9 1) 16 x9)) L9 c s) (o := (none, .int 1, sM Ln (dd_u I9 1 (upd (I9 1) 16 x9)) L9 c s)) rfl rfl h (by omega)
    · have h := h.2 hc
      refine dd_Rn.cV 1 (pc := 53) (ls := [.ref 130]) (st := [.ref 130]) (x := m_X4_advance) (as := [.ref 130]) (rest := []) rfl rfl rfl rfl h ?_
      intro I10 L10 h
      show dd_Rn (e + 16) m_X9_readSetting (56, [.ref 130], [], sM Ln I10 L10 c s) _
      refine dd_Rn.cI 4 (pc := 63) (ls := [.ref 130]) (st := [.int 100, .ref 130, .ref 1]) (x := m_X4_takeNumber) (as := [.ref 130, .int 100]) (rest := [.ref 1]) rfl rfl rfl rfl h ?_
      intro x11 I11 L11 h
      show dd_Rn (e + 16) m_X9_readSetting (66, [.ref 130], [.int x11, .ref 1], sM Ln I11 L11 c s) _
      refine dd_Rn.ite 5 (c := x11 = (-1)) (A := (84, [.ref 130], [], sM Ln (dd_u I11 1 (upd (I11 1) 15 x11)) L11 c s)) (B := (80, [.ref 130], [], sM Ln (dd_u I11 1 (upd (I11 1) 15 x11)) L11 c s)) rfl (fun hc => ?_) (fun hc => ?_) (by omega)
      · have h := h.1 hc
        exact dd_Rn.retK 1 (pc := 85) (ls := [.ref 130]) (st := [.int 0]) (M := sM Ln (dd_u I11 1 (upd (I11 1) 15 x11)) L11 c s) (o := (none, .int 0, sM Ln (dd_u I11 1 (upd (I11 1) 15 x11)) L11 c s)) rfl rfl h (by omega)
      · have h := h.2 hc
        exact dd_Rn.retK 2 (pc := 85) (ls := [.ref 130]) (st := [.int 1]) (M := sM Ln (dd_u I11 1 (upd (I11 1) 15 x11)) L11 c s) (o := (none, .int 1, sM Ln (dd_u I11 1 (upd (I11 1) 15 x11)) L11 c s)) rfl rfl h (by omega)
  · have h := h.2 hc
    refine dd_Rn.cV 1 (pc := 10) (ls := [.ref 130]) (st := [.ref 130]) (x := m_X4_advance) (as := [.ref 130]) (rest := []) rfl rfl rfl rfl h ?_
    intro I12 L12 h
    show dd_Rn (e + 16) m_X9_readSetting (13, [.ref 130], [], sM Ln I12 L12 c s) _
    refine dd_Rn.cI 4 (pc := 20) (ls := [.ref 130]) (st := [.int 15, .ref 130, .ref 1]) (x := m_X4_takeNumber) (as := [.ref 130, .int 15]) (rest := [.ref 1]) rfl rfl rfl rfl h ?_
    intro x13 I13 L13 h
    show dd_Rn (e + 16) m_X9_readSetting (23, [.ref 130], [.int x13, .ref 1], sM Ln I13 L13 c s) _
    refine dd_Rn.ite 5 (c := x13 = (-1)) (A := (41, [.ref 130], [], sM Ln (dd_u I13 1 (upd (I13 1) 14 x13)) L13 c s)) (B := (37, [.ref 130], [], sM Ln (dd_u I13 1 (upd (I13 1) 14 x13)) L13 c s)) rfl (fun hc => ?_) (fun hc => ?_) (by omega)
    · have h := h.1 hc
      exact dd_Rn.retK 1 (pc := 42) (ls := [.ref 130]) (st := [.int 0]) (M := sM Ln (dd_u I13 1 (upd (I13 1) 14 x13)) L13 c s) (o := (none, .int 0, sM Ln (dd_u I13 1 (upd (I13 1) 14 x13)) L13 c s)) rfl rfl h (by omega)
    · have h := h.2 hc
      exact dd_Rn.retK 2 (pc := 42) (ls := [.ref 130]) (st := [.int 1]) (M := sM Ln (dd_u I13 1 (upd (I13 1) 14 x13)) L13 c s) (o := (none, .int 1, sM Ln (dd_u I13 1 (upd (I13 1) 14 x13)) L13 c s)) rfl rfl h (by omega)
