/-! Region lemmas, written by program (gen/regions_all.py) -/
theorem w_L_wood_0 {Ln d c s : Nat} {I : Nat → Nat → Int32} {L : Nat → Nat → Int64} {Q : dd_O → Prop} (hd : 28 ≤ d) (h : dd_Ev (d - 1) m_X10_wood [.ref 0] (sM Ln I L c s) (dd_TI Ln c s (fun x1 I1 L1 => Q (none, .int 0, sM Ln I1 (dd_u L1 163 (vp_updL (L1 163) 0 x1.toInt64)) c s)) (fun E1 I1 L1 => (E1 = 0 ∧ Q (none, .int 1, sM Ln I1 L1 (c + 1) (s + 6))) ∨ (E1 = 1 ∧ Q (none, .int 2, sM Ln I1 L1 (c + 1) (s + 6)))))) : dd_Ev d m_L_wood [.ref 0, .ref 163] (sM Ln I L c s) Q := by
  obtain ⟨e, rfl⟩ : ∃ e, d = e + 16 := ⟨d - 16, by omega⟩
  show dd_Rn (e + 16) m_L_wood (0, [.ref 0, .ref 163, .null], [], sM Ln I L c s) Q
  refine dd_Rn.tI 3 (pc := 3) (ls := [.ref 0, .ref 163, .null]) (st := [.ref 0, .int 0, .ref 163]) (x := m_X10_wood) (as := [.ref 0]) (rest := [.int 0, .ref 163]) rfl rfl rfl rfl rfl h ?_ ?_
  · intro x1 I1 L1 h
    show dd_Rn (e + 16) m_L_wood (6, [.ref 0, .ref 163, .null], [.int x1, .int 0, .ref 163], sM Ln I1 L1 c s) _
    exact dd_Rn.retK 4 (pc := 18) (ls := [.ref 0, .ref 163, .null]) (st := [.int 0]) (M := sM Ln I1 (dd_u L1 163 (vp_updL (L1 163) 0 x1.toInt64)) c s) (o := (none, .int 0, sM Ln I1 (dd_u L1 163 (vp_updL (L1 163) 0 x1.toInt64)) c s)) rfl rfl h (by omega)
  · intro E1 I1 L1 h
    rcases h with ⟨rfl, h⟩ | ⟨rfl, h⟩
    · refine dd_Ah.at (h := 12) (k := 2) rfl rfl ?_
      show dd_Rn (e + 16) m_L_wood (12, [.ref 0, .ref 163, .null], [], sM Ln I1 L1 (c + 1) (s + 6)) _
      exact dd_Rn.retK 1 (pc := 13) (ls := [.ref 0, .ref 163, .null]) (st := [.int 1]) (M := sM Ln I1 L1 (c + 1) (s + 6)) (o := (none, .int 1, sM Ln I1 L1 (c + 1) (s + 6))) rfl rfl h (by omega)
    · refine dd_Ah.at (h := 15) (k := 2) rfl rfl ?_
      show dd_Rn (e + 16) m_L_wood (15, [.ref 0, .ref 163, .null], [], sM Ln I1 L1 (c + 1) (s + 6)) _
      exact dd_Rn.retK 1 (pc := 16) (ls := [.ref 0, .ref 163, .null]) (st := [.int 2]) (M := sM Ln I1 L1 (c + 1) (s + 6)) (o := (none, .int 2, sM Ln I1 L1 (c + 1) (s + 6))) rfl rfl h (by omega)

theorem w_L_law_0 {Ln d c s : Nat} {I : Nat → Nat → Int32} {L : Nat → Nat → Int64} {Q : dd_O → Prop} (hd : 28 ≤ d) (h : dd_Ev (d - 1) m_X10_law [.ref 0] (sM Ln I L c s) (dd_TI Ln c s (fun x1 I1 L1 => Q (none, .int 0, sM Ln I1 (dd_u L1 163 (vp_updL (L1 163) 0 x1.toInt64)) c s)) (fun E1 I1 L1 => (E1 = 0 ∧ Q (none, .int 1, sM Ln I1 L1 (c + 1) (s + 6)))))) : dd_Ev d m_L_law [.ref 0, .ref 163] (sM Ln I L c s) Q := by
  obtain ⟨e, rfl⟩ : ∃ e, d = e + 16 := ⟨d - 16, by omega⟩
  show dd_Rn (e + 16) m_L_law (0, [.ref 0, .ref 163, .null], [], sM Ln I L c s) Q
  refine dd_Rn.tI 3 (pc := 3) (ls := [.ref 0, .ref 163, .null]) (st := [.ref 0, .int 0, .ref 163]) (x := m_X10_law) (as := [.ref 0]) (rest := [.int 0, .ref 163]) rfl rfl rfl rfl rfl h ?_ ?_
  · intro x1 I1 L1 h
    show dd_Rn (e + 16) m_L_law (6, [.ref 0, .ref 163, .null], [.int x1, .int 0, .ref 163], sM Ln I1 L1 c s) _
    exact dd_Rn.retK 4 (pc := 15) (ls := [.ref 0, .ref 163, .null]) (st := [.int 0]) (M := sM Ln I1 (dd_u L1 163 (vp_updL (L1 163) 0 x1.toInt64)) c s) (o := (none, .int 0, sM Ln I1 (dd_u L1 163 (vp_updL (L1 163) 0 x1.toInt64)) c s)) rfl rfl h (by omega)
  · intro E1 I1 L1 h
    rcases h with ⟨rfl, h⟩
    · refine dd_Ah.at (h := 12) (k := 2) rfl rfl ?_
      show dd_Rn (e + 16) m_L_law (12, [.ref 0, .ref 163, .null], [], sM Ln I1 L1 (c + 1) (s + 6)) _
      exact dd_Rn.retK 1 (pc := 13) (ls := [.ref 0, .ref 163, .null]) (st := [.int 1]) (M := sM Ln I1 L1 (c + 1) (s + 6)) (o := (none, .int 1, sM Ln I1 L1 (c + 1) (s + 6))) rfl rfl h (by omega)

theorem w_L_cell_0 {Ln d c s : Nat} {I : Nat → Nat → Int32} {L : Nat → Nat → Int64} {Q : dd_O → Prop} {a1 a2 : Int32} (hd : 28 ≤ d) (h : dd_Ev (d - 1) m_X10_cell [.ref 0, .int a1, .int a2] (sM Ln I L c s) (dd_TI Ln c s (fun x1 I1 L1 => Q (none, .int 0, sM Ln I1 (dd_u L1 163 (vp_updL (L1 163) 0 x1.toInt64)) c s)) (fun E1 I1 L1 => (E1 = 2 ∧ Q (none, .int 1, sM Ln I1 L1 (c + 1) (s + 6))) ∨ (E1 = 3 ∧ Q (none, .int 2, sM Ln I1 L1 (c + 1) (s + 6)))))) : dd_Ev d m_L_cell [.ref 0, .int a1, .int a2, .ref 163] (sM Ln I L c s) Q := by
  obtain ⟨e, rfl⟩ : ∃ e, d = e + 16 := ⟨d - 16, by omega⟩
  show dd_Rn (e + 16) m_L_cell (0, [.ref 0, .int a1, .int a2, .ref 163, .null], [], sM Ln I L c s) Q
  refine dd_Rn.tI 5 (pc := 5) (ls := [.ref 0, .int a1, .int a2, .ref 163, .null]) (st := [.int a2, .int a1, .ref 0, .int 0, .ref 163]) (x := m_X10_cell) (as := [.ref 0, .int a1, .int a2]) (rest := [.int 0, .ref 163]) rfl rfl rfl rfl rfl h ?_ ?_
  · intro x1 I1 L1 h
    show dd_Rn (e + 16) m_L_cell (8, [.ref 0, .int a1, .int a2, .ref 163, .null], [.int x1, .int 0, .ref 163], sM Ln I1 L1 c s) _
    exact dd_Rn.retK 4 (pc := 22) (ls := [.ref 0, .int a1, .int a2, .ref 163, .null]) (st := [.int 0]) (M := sM Ln I1 (dd_u L1 163 (vp_updL (L1 163) 0 x1.toInt64)) c s) (o := (none, .int 0, sM Ln I1 (dd_u L1 163 (vp_updL (L1 163) 0 x1.toInt64)) c s)) rfl rfl h (by omega)
  · intro E1 I1 L1 h
    rcases h with ⟨rfl, h⟩ | ⟨rfl, h⟩
    · refine dd_Ah.at (h := 15) (k := 4) rfl rfl ?_
      show dd_Rn (e + 16) m_L_cell (15, [.ref 0, .int a1, .int a2, .ref 163, .null], [], sM Ln I1 L1 (c + 1) (s + 6)) _
      exact dd_Rn.retK 1 (pc := 16) (ls := [.ref 0, .int a1, .int a2, .ref 163, .null]) (st := [.int 1]) (M := sM Ln I1 L1 (c + 1) (s + 6)) (o := (none, .int 1, sM Ln I1 L1 (c + 1) (s + 6))) rfl rfl h (by omega)
    · refine dd_Ah.at (h := 19) (k := 4) rfl rfl ?_
      show dd_Rn (e + 16) m_L_cell (19, [.ref 0, .int a1, .int a2, .ref 163, .null], [], sM Ln I1 L1 (c + 1) (s + 6)) _
      exact dd_Rn.retK 1 (pc := 20) (ls := [.ref 0, .int a1, .int a2, .ref 163, .null]) (st := [.int 2]) (M := sM Ln I1 L1 (c + 1) (s + 6)) (o := (none, .int 2, sM Ln I1 L1 (c + 1) (s + 6))) rfl rfl h (by omega)

theorem w_L_note_0 {Ln d c s : Nat} {I : Nat → Nat → Int32} {L : Nat → Nat → Int64} {Q : dd_O → Prop} {a1 a2 : Int32} (hd : 28 ≤ d) (h : dd_Ev (d - 1) m_X10_note [.ref 0, .int a1, .int a2] (sM Ln I L c s) (dd_TI Ln c s (fun x1 I1 L1 => Q (none, .int 0, sM Ln I1 (dd_u L1 163 (vp_updL (L1 163) 0 x1.toInt64)) c s)) (fun E1 I1 L1 => (E1 = 2 ∧ Q (none, .int 1, sM Ln I1 L1 (c + 1) (s + 6)))))) : dd_Ev d m_L_note [.ref 0, .int a1, .int a2, .ref 163] (sM Ln I L c s) Q := by
  obtain ⟨e, rfl⟩ : ∃ e, d = e + 16 := ⟨d - 16, by omega⟩
  show dd_Rn (e + 16) m_L_note (0, [.ref 0, .int a1, .int a2, .ref 163, .null], [], sM Ln I L c s) Q
  refine dd_Rn.tI 5 (pc := 5) (ls := [.ref 0, .int a1, .int a2, .ref 163, .null]) (st := [.int a2, .int a1, .ref 0, .int 0, .ref 163]) (x := m_X10_note) (as := [.ref 0, .int a1, .int a2]) (rest := [.int 0, .ref 163]) rfl rfl rfl rfl rfl h ?_ ?_
  · intro x1 I1 L1 h
    show dd_Rn (e + 16) m_L_note (8, [.ref 0, .int a1, .int a2, .ref 163, .null], [.int x1, .int 0, .ref 163], sM Ln I1 L1 c s) _
    exact dd_Rn.retK 4 (pc := 18) (ls := [.ref 0, .int a1, .int a2, .ref 163, .null]) (st := [.int 0]) (M := sM Ln I1 (dd_u L1 163 (vp_updL (L1 163) 0 x1.toInt64)) c s) (o := (none, .int 0, sM Ln I1 (dd_u L1 163 (vp_updL (L1 163) 0 x1.toInt64)) c s)) rfl rfl h (by omega)
  · intro E1 I1 L1 h
    rcases h with ⟨rfl, h⟩
    · refine dd_Ah.at (h := 15) (k := 4) rfl rfl ?_
      show dd_Rn (e + 16) m_L_note (15, [.ref 0, .int a1, .int a2, .ref 163, .null], [], sM Ln I1 L1 (c + 1) (s + 6)) _
      exact dd_Rn.retK 1 (pc := 16) (ls := [.ref 0, .int a1, .int a2, .ref 163, .null]) (st := [.int 1]) (M := sM Ln I1 L1 (c + 1) (s + 6)) (o := (none, .int 1, sM Ln I1 L1 (c + 1) (s + 6))) rfl rfl h (by omega)

theorem w_L_boy_0 {Ln d c s : Nat} {I : Nat → Nat → Int32} {L : Nat → Nat → Int64} {Q : dd_O → Prop} {a1 a2 : Int32} (hd : 28 ≤ d) (h : dd_Ev (d - 1) m_X10_boy [.ref 0, .int a1, .int a2] (sM Ln I L c s) (dd_TI Ln c s (fun x1 I1 L1 => Q (none, .int 0, sM Ln I1 (dd_u L1 163 (vp_updL (L1 163) 0 x1.toInt64)) c s)) (fun E1 I1 L1 => (E1 = 2 ∧ Q (none, .int 1, sM Ln I1 L1 (c + 1) (s + 6))) ∨ (E1 = 3 ∧ Q (none, .int 2, sM Ln I1 L1 (c + 1) (s + 6)))))) : dd_Ev d m_L_boy [.ref 0, .int a1, .int a2, .ref 163] (sM Ln I L c s) Q := by
  obtain ⟨e, rfl⟩ : ∃ e, d = e + 16 := ⟨d - 16, by omega⟩
  show dd_Rn (e + 16) m_L_boy (0, [.ref 0, .int a1, .int a2, .ref 163, .null], [], sM Ln I L c s) Q
  refine dd_Rn.tI 5 (pc := 5) (ls := [.ref 0, .int a1, .int a2, .ref 163, .null]) (st := [.int a2, .int a1, .ref 0, .int 0, .ref 163]) (x := m_X10_boy) (as := [.ref 0, .int a1, .int a2]) (rest := [.int 0, .ref 163]) rfl rfl rfl rfl rfl h ?_ ?_
  · intro x1 I1 L1 h
    show dd_Rn (e + 16) m_L_boy (8, [.ref 0, .int a1, .int a2, .ref 163, .null], [.int x1, .int 0, .ref 163], sM Ln I1 L1 c s) _
    exact dd_Rn.retK 4 (pc := 22) (ls := [.ref 0, .int a1, .int a2, .ref 163, .null]) (st := [.int 0]) (M := sM Ln I1 (dd_u L1 163 (vp_updL (L1 163) 0 x1.toInt64)) c s) (o := (none, .int 0, sM Ln I1 (dd_u L1 163 (vp_updL (L1 163) 0 x1.toInt64)) c s)) rfl rfl h (by omega)
  · intro E1 I1 L1 h
    rcases h with ⟨rfl, h⟩ | ⟨rfl, h⟩
    · refine dd_Ah.at (h := 15) (k := 4) rfl rfl ?_
      show dd_Rn (e + 16) m_L_boy (15, [.ref 0, .int a1, .int a2, .ref 163, .null], [], sM Ln I1 L1 (c + 1) (s + 6)) _
      exact dd_Rn.retK 1 (pc := 16) (ls := [.ref 0, .int a1, .int a2, .ref 163, .null]) (st := [.int 1]) (M := sM Ln I1 L1 (c + 1) (s + 6)) (o := (none, .int 1, sM Ln I1 L1 (c + 1) (s + 6))) rfl rfl h (by omega)
    · refine dd_Ah.at (h := 19) (k := 4) rfl rfl ?_
      show dd_Rn (e + 16) m_L_boy (19, [.ref 0, .int a1, .int a2, .ref 163, .null], [], sM Ln I1 L1 (c + 1) (s + 6)) _
      exact dd_Rn.retK 1 (pc := 20) (ls := [.ref 0, .int a1, .int a2, .ref 163, .null]) (st := [.int 2]) (M := sM Ln I1 L1 (c + 1) (s + 6)) (o := (none, .int 2, sM Ln I1 L1 (c + 1) (s + 6))) rfl rfl h (by omega)

theorem w_L_sing_0 {Ln d c s : Nat} {I : Nat → Nat → Int32} {L : Nat → Nat → Int64} {Q : dd_O → Prop} {a1 : Int32} (hd : 28 ≤ d) (h : dd_Ev (d - 1) m_X10_sing [.ref 0, .int a1] (sM Ln I L c s) (dd_TI Ln c s (fun x1 I1 L1 => Q (none, .int 0, sM Ln I1 (dd_u L1 163 (vp_updL (L1 163) 0 x1.toInt64)) c s)) (fun E1 I1 L1 => (E1 = 0 ∧ Q (none, .int 1, sM Ln I1 L1 (c + 1) (s + 6)))))) : dd_Ev d m_L_sing [.ref 0, .int a1, .ref 163] (sM Ln I L c s) Q := by
  obtain ⟨e, rfl⟩ : ∃ e, d = e + 16 := ⟨d - 16, by omega⟩
  show dd_Rn (e + 16) m_L_sing (0, [.ref 0, .int a1, .ref 163, .null], [], sM Ln I L c s) Q
  refine dd_Rn.tI 4 (pc := 4) (ls := [.ref 0, .int a1, .ref 163, .null]) (st := [.int a1, .ref 0, .int 0, .ref 163]) (x := m_X10_sing) (as := [.ref 0, .int a1]) (rest := [.int 0, .ref 163]) rfl rfl rfl rfl rfl h ?_ ?_
  · intro x1 I1 L1 h
    show dd_Rn (e + 16) m_L_sing (7, [.ref 0, .int a1, .ref 163, .null], [.int x1, .int 0, .ref 163], sM Ln I1 L1 c s) _
    exact dd_Rn.retK 4 (pc := 16) (ls := [.ref 0, .int a1, .ref 163, .null]) (st := [.int 0]) (M := sM Ln I1 (dd_u L1 163 (vp_updL (L1 163) 0 x1.toInt64)) c s) (o := (none, .int 0, sM Ln I1 (dd_u L1 163 (vp_updL (L1 163) 0 x1.toInt64)) c s)) rfl rfl h (by omega)
  · intro E1 I1 L1 h
    rcases h with ⟨rfl, h⟩
    · refine dd_Ah.at (h := 13) (k := 3) rfl rfl ?_
      show dd_Rn (e + 16) m_L_sing (13, [.ref 0, .int a1, .ref 163, .null], [], sM Ln I1 L1 (c + 1) (s + 6)) _
      exact dd_Rn.retK 1 (pc := 14) (ls := [.ref 0, .int a1, .ref 163, .null]) (st := [.int 1]) (M := sM Ln I1 L1 (c + 1) (s + 6)) (o := (none, .int 1, sM Ln I1 L1 (c + 1) (s + 6))) rfl rfl h (by omega)

theorem w_L_fire_0 {Ln d c s : Nat} {I : Nat → Nat → Int32} {L : Nat → Nat → Int64} {Q : dd_O → Prop} {a1 : Int32} (hd : 28 ≤ d) (h : dd_Ev (d - 1) m_X10_fire [.ref 0, .int a1] (sM Ln I L c s) (dd_TI Ln c s (fun x1 I1 L1 => Q (none, .int 0, sM Ln I1 (dd_u L1 163 (vp_updL (L1 163) 0 x1.toInt64)) c s)) (fun E1 I1 L1 => (E1 = 2 ∧ Q (none, .int 1, sM Ln I1 L1 (c + 1) (s + 6))) ∨ (E1 = 4 ∧ Q (none, .int 2, sM Ln I1 L1 (c + 1) (s + 6)))))) : dd_Ev d m_L_fire [.ref 0, .int a1, .ref 163] (sM Ln I L c s) Q := by
  obtain ⟨e, rfl⟩ : ∃ e, d = e + 16 := ⟨d - 16, by omega⟩
  show dd_Rn (e + 16) m_L_fire (0, [.ref 0, .int a1, .ref 163, .null], [], sM Ln I L c s) Q
  refine dd_Rn.tI 4 (pc := 4) (ls := [.ref 0, .int a1, .ref 163, .null]) (st := [.int a1, .ref 0, .int 0, .ref 163]) (x := m_X10_fire) (as := [.ref 0, .int a1]) (rest := [.int 0, .ref 163]) rfl rfl rfl rfl rfl h ?_ ?_
  · intro x1 I1 L1 h
    show dd_Rn (e + 16) m_L_fire (7, [.ref 0, .int a1, .ref 163, .null], [.int x1, .int 0, .ref 163], sM Ln I1 L1 c s) _
    exact dd_Rn.retK 4 (pc := 19) (ls := [.ref 0, .int a1, .ref 163, .null]) (st := [.int 0]) (M := sM Ln I1 (dd_u L1 163 (vp_updL (L1 163) 0 x1.toInt64)) c s) (o := (none, .int 0, sM Ln I1 (dd_u L1 163 (vp_updL (L1 163) 0 x1.toInt64)) c s)) rfl rfl h (by omega)
  · intro E1 I1 L1 h
    rcases h with ⟨rfl, h⟩ | ⟨rfl, h⟩
    · refine dd_Ah.at (h := 13) (k := 3) rfl rfl ?_
      show dd_Rn (e + 16) m_L_fire (13, [.ref 0, .int a1, .ref 163, .null], [], sM Ln I1 L1 (c + 1) (s + 6)) _
      exact dd_Rn.retK 1 (pc := 14) (ls := [.ref 0, .int a1, .ref 163, .null]) (st := [.int 1]) (M := sM Ln I1 L1 (c + 1) (s + 6)) (o := (none, .int 1, sM Ln I1 L1 (c + 1) (s + 6))) rfl rfl h (by omega)
    · refine dd_Ah.at (h := 16) (k := 3) rfl rfl ?_
      show dd_Rn (e + 16) m_L_fire (16, [.ref 0, .int a1, .ref 163, .null], [], sM Ln I1 L1 (c + 1) (s + 6)) _
      exact dd_Rn.retK 1 (pc := 17) (ls := [.ref 0, .int a1, .ref 163, .null]) (st := [.int 2]) (M := sM Ln I1 L1 (c + 1) (s + 6)) (o := (none, .int 2, sM Ln I1 L1 (c + 1) (s + 6))) rfl rfl h (by omega)

theorem w_L_plant_0 {Ln d c s : Nat} {I : Nat → Nat → Int32} {L : Nat → Nat → Int64} {Q : dd_O → Prop} {a1 a2 : Int32} (hd : 28 ≤ d) (h : dd_Ev (d - 1) m_X10_plant [.ref 0, .int a1, .int a2] (sM Ln I L c s) (dd_TI Ln c s (fun x1 I1 L1 => ((x1 = 0 → Q (none, .int 0, sM Ln I1 (dd_u L1 163 (vp_updL (L1 163) 0 (Int64.ofNat 0))) c s)) ∧ (¬ (x1 = 0) → Q (none, .int 0, sM Ln I1 (dd_u L1 163 (vp_updL (L1 163) 0 (Int64.ofNat 1))) c s)))) (fun E1 I1 L1 => (E1 = 2 ∧ Q (none, .int 1, sM Ln I1 L1 (c + 1) (s + 6))) ∨ (E1 = 4 ∧ Q (none, .int 2, sM Ln I1 L1 (c + 1) (s + 6)))))) : dd_Ev d m_L_plant [.ref 0, .int a1, .int a2, .ref 163] (sM Ln I L c s) Q := by
  obtain ⟨e, rfl⟩ : ∃ e, d = e + 16 := ⟨d - 16, by omega⟩
  show dd_Rn (e + 16) m_L_plant (0, [.ref 0, .int a1, .int a2, .ref 163, .null], [], sM Ln I L c s) Q
  refine dd_Rn.tI 5 (pc := 5) (ls := [.ref 0, .int a1, .int a2, .ref 163, .null]) (st := [.int a2, .int a1, .ref 0, .int 0, .ref 163]) (x := m_X10_plant) (as := [.ref 0, .int a1, .int a2]) (rest := [.int 0, .ref 163]) rfl rfl rfl rfl rfl h ?_ ?_
  · intro x1 I1 L1 h
    show dd_Rn (e + 16) m_L_plant (8, [.ref 0, .int a1, .int a2, .ref 163, .null], [.int x1, .int 0, .ref 163], sM Ln I1 L1 c s) _
    refine dd_Rn.ite 0 (c := x1 = 0) (A := (15, [.ref 0, .int a1, .int a2, .ref 163, .null], [.int 0, .ref 163], sM Ln I1 L1 c s)) (B := (11, [.ref 0, .int a1, .int a2, .ref 163, .null], [.int 0, .ref 163], sM Ln I1 L1 c s)) rfl (fun hc => ?_) (fun hc => ?_) (by omega)
    · have h := h.1 hc
      exact dd_Rn.retK 4 (pc := 29) (ls := [.ref 0, .int a1, .int a2, .ref 163, .null]) (st := [.int 0]) (M := sM Ln I1 (dd_u L1 163 (vp_updL (L1 163) 0 (Int64.ofNat 0))) c s) (o := (none, .int 0, sM Ln I1 (dd_u L1 163 (vp_updL (L1 163) 0 (Int64.ofNat 0))) c s)) rfl rfl h (by omega)
    · have h := h.2 hc
      exact dd_Rn.retK 5 (pc := 29) (ls := [.ref 0, .int a1, .int a2, .ref 163, .null]) (st := [.int 0]) (M := sM Ln I1 (dd_u L1 163 (vp_updL (L1 163) 0 (Int64.ofNat 1))) c s) (o := (none, .int 0, sM Ln I1 (dd_u L1 163 (vp_updL (L1 163) 0 (Int64.ofNat 1))) c s)) rfl rfl h (by omega)
  · intro E1 I1 L1 h
    rcases h with ⟨rfl, h⟩ | ⟨rfl, h⟩
    · refine dd_Ah.at (h := 22) (k := 4) rfl rfl ?_
      show dd_Rn (e + 16) m_L_plant (22, [.ref 0, .int a1, .int a2, .ref 163, .null], [], sM Ln I1 L1 (c + 1) (s + 6)) _
      exact dd_Rn.retK 1 (pc := 23) (ls := [.ref 0, .int a1, .int a2, .ref 163, .null]) (st := [.int 1]) (M := sM Ln I1 L1 (c + 1) (s + 6)) (o := (none, .int 1, sM Ln I1 L1 (c + 1) (s + 6))) rfl rfl h (by omega)
    · refine dd_Ah.at (h := 26) (k := 4) rfl rfl ?_
      show dd_Rn (e + 16) m_L_plant (26, [.ref 0, .int a1, .int a2, .ref 163, .null], [], sM Ln I1 L1 (c + 1) (s + 6)) _
      exact dd_Rn.retK 1 (pc := 27) (ls := [.ref 0, .int a1, .int a2, .ref 163, .null]) (st := [.int 2]) (M := sM Ln I1 L1 (c + 1) (s + 6)) (o := (none, .int 2, sM Ln I1 L1 (c + 1) (s + 6))) rfl rfl h (by omega)

theorem w_L_part_0 {Ln d c s : Nat} {I : Nat → Nat → Int32} {L : Nat → Nat → Int64} {Q : dd_O → Prop} {a1 a2 : Int32} (hd : 28 ≤ d) (h : dd_Ev (d - 1) m_X10_part [.ref 0, .int a1, .int a2] (sM Ln I L c s) (dd_TI Ln c s (fun x1 I1 L1 => Q (none, .int 0, sM Ln I1 (dd_u L1 163 (vp_updL (L1 163) 0 x1.toInt64)) c s)) (fun E1 I1 L1 => (E1 = 2 ∧ Q (none, .int 1, sM Ln I1 L1 (c + 1) (s + 6)))))) : dd_Ev d m_L_part [.ref 0, .int a1, .int a2, .ref 163] (sM Ln I L c s) Q := by
  obtain ⟨e, rfl⟩ : ∃ e, d = e + 16 := ⟨d - 16, by omega⟩
  show dd_Rn (e + 16) m_L_part (0, [.ref 0, .int a1, .int a2, .ref 163, .null], [], sM Ln I L c s) Q
  refine dd_Rn.tI 5 (pc := 5) (ls := [.ref 0, .int a1, .int a2, .ref 163, .null]) (st := [.int a2, .int a1, .ref 0, .int 0, .ref 163]) (x := m_X10_part) (as := [.ref 0, .int a1, .int a2]) (rest := [.int 0, .ref 163]) rfl rfl rfl rfl rfl h ?_ ?_
  · intro x1 I1 L1 h
    show dd_Rn (e + 16) m_L_part (8, [.ref 0, .int a1, .int a2, .ref 163, .null], [.int x1, .int 0, .ref 163], sM Ln I1 L1 c s) _
    exact dd_Rn.retK 4 (pc := 18) (ls := [.ref 0, .int a1, .int a2, .ref 163, .null]) (st := [.int 0]) (M := sM Ln I1 (dd_u L1 163 (vp_updL (L1 163) 0 x1.toInt64)) c s) (o := (none, .int 0, sM Ln I1 (dd_u L1 163 (vp_updL (L1 163) 0 x1.toInt64)) c s)) rfl rfl h (by omega)
  · intro E1 I1 L1 h
    rcases h with ⟨rfl, h⟩
    · refine dd_Ah.at (h := 15) (k := 4) rfl rfl ?_
      show dd_Rn (e + 16) m_L_part (15, [.ref 0, .int a1, .int a2, .ref 163, .null], [], sM Ln I1 L1 (c + 1) (s + 6)) _
      exact dd_Rn.retK 1 (pc := 16) (ls := [.ref 0, .int a1, .int a2, .ref 163, .null]) (st := [.int 1]) (M := sM Ln I1 L1 (c + 1) (s + 6)) (o := (none, .int 1, sM Ln I1 L1 (c + 1) (s + 6))) rfl rfl h (by omega)

theorem w_L_tune_0 {Ln d c s : Nat} {I : Nat → Nat → Int32} {L : Nat → Nat → Int64} {Q : dd_O → Prop} {a1 a2 a3 : Int32} (hd : 28 ≤ d) (h : dd_Ev (d - 1) m_X10_tune [.ref 0, .int a1, .int a2, .int a3] (sM Ln I L c s) (dd_TI Ln c s (fun x1 I1 L1 => Q (none, .int 0, sM Ln I1 (dd_u L1 163 (vp_updL (L1 163) 0 x1.toInt64)) c s)) (fun E1 I1 L1 => (E1 = 2 ∧ Q (none, .int 1, sM Ln I1 L1 (c + 1) (s + 6))) ∨ (E1 = 0 ∧ Q (none, .int 2, sM Ln I1 L1 (c + 1) (s + 6)))))) : dd_Ev d m_L_tune [.ref 0, .int a1, .int a2, .int a3, .ref 163] (sM Ln I L c s) Q := by
  obtain ⟨e, rfl⟩ : ∃ e, d = e + 16 := ⟨d - 16, by omega⟩
  show dd_Rn (e + 16) m_L_tune (0, [.ref 0, .int a1, .int a2, .int a3, .ref 163, .null], [], sM Ln I L c s) Q
  refine dd_Rn.tI 6 (pc := 7) (ls := [.ref 0, .int a1, .int a2, .int a3, .ref 163, .null]) (st := [.int a3, .int a2, .int a1, .ref 0, .int 0, .ref 163]) (x := m_X10_tune) (as := [.ref 0, .int a1, .int a2, .int a3]) (rest := [.int 0, .ref 163]) rfl rfl rfl rfl rfl h ?_ ?_
  · intro x1 I1 L1 h
    show dd_Rn (e + 16) m_L_tune (10, [.ref 0, .int a1, .int a2, .int a3, .ref 163, .null], [.int x1, .int 0, .ref 163], sM Ln I1 L1 c s) _
    exact dd_Rn.retK 4 (pc := 24) (ls := [.ref 0, .int a1, .int a2, .int a3, .ref 163, .null]) (st := [.int 0]) (M := sM Ln I1 (dd_u L1 163 (vp_updL (L1 163) 0 x1.toInt64)) c s) (o := (none, .int 0, sM Ln I1 (dd_u L1 163 (vp_updL (L1 163) 0 x1.toInt64)) c s)) rfl rfl h (by omega)
  · intro E1 I1 L1 h
    rcases h with ⟨rfl, h⟩ | ⟨rfl, h⟩
    · refine dd_Ah.at (h := 17) (k := 5) rfl rfl ?_
      show dd_Rn (e + 16) m_L_tune (17, [.ref 0, .int a1, .int a2, .int a3, .ref 163, .null], [], sM Ln I1 L1 (c + 1) (s + 6)) _
      exact dd_Rn.retK 1 (pc := 18) (ls := [.ref 0, .int a1, .int a2, .int a3, .ref 163, .null]) (st := [.int 1]) (M := sM Ln I1 L1 (c + 1) (s + 6)) (o := (none, .int 1, sM Ln I1 L1 (c + 1) (s + 6))) rfl rfl h (by omega)
    · refine dd_Ah.at (h := 21) (k := 5) rfl rfl ?_
      show dd_Rn (e + 16) m_L_tune (21, [.ref 0, .int a1, .int a2, .int a3, .ref 163, .null], [], sM Ln I1 L1 (c + 1) (s + 6)) _
      exact dd_Rn.retK 1 (pc := 22) (ls := [.ref 0, .int a1, .int a2, .int a3, .ref 163, .null]) (st := [.int 2]) (M := sM Ln I1 L1 (c + 1) (s + 6)) (o := (none, .int 2, sM Ln I1 L1 (c + 1) (s + 6))) rfl rfl h (by omega)

theorem w_L_call_0 {Ln d c s : Nat} {I : Nat → Nat → Int32} {L : Nat → Nat → Int64} {Q : dd_O → Prop} {a1 : Int32} (hd : 28 ≤ d) (h : dd_Ev (d - 1) m_X10_call [.ref 0, .int a1] (sM Ln I L c s) (dd_TI Ln c s (fun x1 I1 L1 => Q (none, .int 0, sM Ln I1 (dd_u L1 163 (vp_updL (L1 163) 0 x1.toInt64)) c s)) (fun E1 I1 L1 => (E1 = 2 ∧ Q (none, .int 1, sM Ln I1 L1 (c + 1) (s + 6))) ∨ (E1 = 4 ∧ Q (none, .int 2, sM Ln I1 L1 (c + 1) (s + 6)))))) : dd_Ev d m_L_call [.ref 0, .int a1, .ref 163] (sM Ln I L c s) Q := by
  obtain ⟨e, rfl⟩ : ∃ e, d = e + 16 := ⟨d - 16, by omega⟩
  show dd_Rn (e + 16) m_L_call (0, [.ref 0, .int a1, .ref 163, .null], [], sM Ln I L c s) Q
  refine dd_Rn.tI 4 (pc := 4) (ls := [.ref 0, .int a1, .ref 163, .null]) (st := [.int a1, .ref 0, .int 0, .ref 163]) (x := m_X10_call) (as := [.ref 0, .int a1]) (rest := [.int 0, .ref 163]) rfl rfl rfl rfl rfl h ?_ ?_
  · intro x1 I1 L1 h
    show dd_Rn (e + 16) m_L_call (7, [.ref 0, .int a1, .ref 163, .null], [.int x1, .int 0, .ref 163], sM Ln I1 L1 c s) _
    exact dd_Rn.retK 4 (pc := 19) (ls := [.ref 0, .int a1, .ref 163, .null]) (st := [.int 0]) (M := sM Ln I1 (dd_u L1 163 (vp_updL (L1 163) 0 x1.toInt64)) c s) (o := (none, .int 0, sM Ln I1 (dd_u L1 163 (vp_updL (L1 163) 0 x1.toInt64)) c s)) rfl rfl h (by omega)
  · intro E1 I1 L1 h
    rcases h with ⟨rfl, h⟩ | ⟨rfl, h⟩
    · refine dd_Ah.at (h := 13) (k := 3) rfl rfl ?_
      show dd_Rn (e + 16) m_L_call (13, [.ref 0, .int a1, .ref 163, .null], [], sM Ln I1 L1 (c + 1) (s + 6)) _
      exact dd_Rn.retK 1 (pc := 14) (ls := [.ref 0, .int a1, .ref 163, .null]) (st := [.int 1]) (M := sM Ln I1 L1 (c + 1) (s + 6)) (o := (none, .int 1, sM Ln I1 L1 (c + 1) (s + 6))) rfl rfl h (by omega)
    · refine dd_Ah.at (h := 16) (k := 3) rfl rfl ?_
      show dd_Rn (e + 16) m_L_call (16, [.ref 0, .int a1, .ref 163, .null], [], sM Ln I1 L1 (c + 1) (s + 6)) _
      exact dd_Rn.retK 1 (pc := 17) (ls := [.ref 0, .int a1, .ref 163, .null]) (st := [.int 2]) (M := sM Ln I1 L1 (c + 1) (s + 6)) (o := (none, .int 2, sM Ln I1 L1 (c + 1) (s + 6))) rfl rfl h (by omega)

theorem w_L_send_0 {Ln d c s : Nat} {I : Nat → Nat → Int32} {L : Nat → Nat → Int64} {Q : dd_O → Prop} {a1 a2 : Int32} (hd : 28 ≤ d) (h : dd_Ev (d - 1) m_X10_send [.ref 0, .int a1, .int a2] (sM Ln I L c s) (dd_TI Ln c s (fun x1 I1 L1 => Q (none, .int 0, sM Ln I1 (dd_u L1 163 (vp_updL (L1 163) 0 x1.toInt64)) c s)) (fun E1 I1 L1 => (E1 = 2 ∧ Q (none, .int 1, sM Ln I1 L1 (c + 1) (s + 6))) ∨ (E1 = 4 ∧ Q (none, .int 2, sM Ln I1 L1 (c + 1) (s + 6)))))) : dd_Ev d m_L_send [.ref 0, .int a1, .int a2, .ref 163] (sM Ln I L c s) Q := by
  obtain ⟨e, rfl⟩ : ∃ e, d = e + 16 := ⟨d - 16, by omega⟩
  show dd_Rn (e + 16) m_L_send (0, [.ref 0, .int a1, .int a2, .ref 163, .null], [], sM Ln I L c s) Q
  refine dd_Rn.tI 5 (pc := 5) (ls := [.ref 0, .int a1, .int a2, .ref 163, .null]) (st := [.int a2, .int a1, .ref 0, .int 0, .ref 163]) (x := m_X10_send) (as := [.ref 0, .int a1, .int a2]) (rest := [.int 0, .ref 163]) rfl rfl rfl rfl rfl h ?_ ?_
  · intro x1 I1 L1 h
    show dd_Rn (e + 16) m_L_send (8, [.ref 0, .int a1, .int a2, .ref 163, .null], [.int x1, .int 0, .ref 163], sM Ln I1 L1 c s) _
    exact dd_Rn.retK 4 (pc := 22) (ls := [.ref 0, .int a1, .int a2, .ref 163, .null]) (st := [.int 0]) (M := sM Ln I1 (dd_u L1 163 (vp_updL (L1 163) 0 x1.toInt64)) c s) (o := (none, .int 0, sM Ln I1 (dd_u L1 163 (vp_updL (L1 163) 0 x1.toInt64)) c s)) rfl rfl h (by omega)
  · intro E1 I1 L1 h
    rcases h with ⟨rfl, h⟩ | ⟨rfl, h⟩
    · refine dd_Ah.at (h := 15) (k := 4) rfl rfl ?_
      show dd_Rn (e + 16) m_L_send (15, [.ref 0, .int a1, .int a2, .ref 163, .null], [], sM Ln I1 L1 (c + 1) (s + 6)) _
      exact dd_Rn.retK 1 (pc := 16) (ls := [.ref 0, .int a1, .int a2, .ref 163, .null]) (st := [.int 1]) (M := sM Ln I1 L1 (c + 1) (s + 6)) (o := (none, .int 1, sM Ln I1 L1 (c + 1) (s + 6))) rfl rfl h (by omega)
    · refine dd_Ah.at (h := 19) (k := 4) rfl rfl ?_
      show dd_Rn (e + 16) m_L_send (19, [.ref 0, .int a1, .int a2, .ref 163, .null], [], sM Ln I1 L1 (c + 1) (s + 6)) _
      exact dd_Rn.retK 1 (pc := 20) (ls := [.ref 0, .int a1, .int a2, .ref 163, .null]) (st := [.int 2]) (M := sM Ln I1 L1 (c + 1) (s + 6)) (o := (none, .int 2, sM Ln I1 L1 (c + 1) (s + 6))) rfl rfl h (by omega)

theorem w_L_loud_0 {Ln d c s : Nat} {I : Nat → Nat → Int32} {L : Nat → Nat → Int64} {Q : dd_O → Prop} {a1 : Int32} (hd : 28 ≤ d) (h : dd_Ev (d - 1) m_X10_loud [.ref 0, .int a1] (sM Ln I L c s) (dd_TI Ln c s (fun x1 I1 L1 => Q (none, .int 0, sM Ln I1 (dd_u L1 163 (vp_updL (L1 163) 0 x1.toInt64)) c s)) (fun E1 I1 L1 => (E1 = 0 ∧ Q (none, .int 1, sM Ln I1 L1 (c + 1) (s + 6)))))) : dd_Ev d m_L_loud [.ref 0, .int a1, .ref 163] (sM Ln I L c s) Q := by
  obtain ⟨e, rfl⟩ : ∃ e, d = e + 16 := ⟨d - 16, by omega⟩
  show dd_Rn (e + 16) m_L_loud (0, [.ref 0, .int a1, .ref 163, .null], [], sM Ln I L c s) Q
  refine dd_Rn.tI 4 (pc := 4) (ls := [.ref 0, .int a1, .ref 163, .null]) (st := [.int a1, .ref 0, .int 0, .ref 163]) (x := m_X10_loud) (as := [.ref 0, .int a1]) (rest := [.int 0, .ref 163]) rfl rfl rfl rfl rfl h ?_ ?_
  · intro x1 I1 L1 h
    show dd_Rn (e + 16) m_L_loud (7, [.ref 0, .int a1, .ref 163, .null], [.int x1, .int 0, .ref 163], sM Ln I1 L1 c s) _
    exact dd_Rn.retK 4 (pc := 16) (ls := [.ref 0, .int a1, .ref 163, .null]) (st := [.int 0]) (M := sM Ln I1 (dd_u L1 163 (vp_updL (L1 163) 0 x1.toInt64)) c s) (o := (none, .int 0, sM Ln I1 (dd_u L1 163 (vp_updL (L1 163) 0 x1.toInt64)) c s)) rfl rfl h (by omega)
  · intro E1 I1 L1 h
    rcases h with ⟨rfl, h⟩
    · refine dd_Ah.at (h := 13) (k := 3) rfl rfl ?_
      show dd_Rn (e + 16) m_L_loud (13, [.ref 0, .int a1, .ref 163, .null], [], sM Ln I1 L1 (c + 1) (s + 6)) _
      exact dd_Rn.retK 1 (pc := 14) (ls := [.ref 0, .int a1, .ref 163, .null]) (st := [.int 1]) (M := sM Ln I1 L1 (c + 1) (s + 6)) (o := (none, .int 1, sM Ln I1 L1 (c + 1) (s + 6))) rfl rfl h (by omega)

theorem w_L_path_0 {Ln d c s : Nat} {I : Nat → Nat → Int32} {L : Nat → Nat → Int64} {Q : dd_O → Prop} {a1 a2 : Int32} (hd : 28 ≤ d) (h : dd_Ev (d - 1) m_X10_path [.ref 0, .int a1, .int a2] (sM Ln I L c s) (dd_TI Ln c s (fun x1 I1 L1 => Q (none, .int 0, sM Ln I1 (dd_u L1 163 (vp_updL (L1 163) 0 x1.toInt64)) c s)) (fun E1 I1 L1 => (E1 = 2 ∧ Q (none, .int 1, sM Ln I1 L1 (c + 1) (s + 6)))))) : dd_Ev d m_L_path [.ref 0, .int a1, .int a2, .ref 163] (sM Ln I L c s) Q := by
  obtain ⟨e, rfl⟩ : ∃ e, d = e + 16 := ⟨d - 16, by omega⟩
  show dd_Rn (e + 16) m_L_path (0, [.ref 0, .int a1, .int a2, .ref 163, .null], [], sM Ln I L c s) Q
  refine dd_Rn.tI 5 (pc := 5) (ls := [.ref 0, .int a1, .int a2, .ref 163, .null]) (st := [.int a2, .int a1, .ref 0, .int 0, .ref 163]) (x := m_X10_path) (as := [.ref 0, .int a1, .int a2]) (rest := [.int 0, .ref 163]) rfl rfl rfl rfl rfl h ?_ ?_
  · intro x1 I1 L1 h
    show dd_Rn (e + 16) m_L_path (8, [.ref 0, .int a1, .int a2, .ref 163, .null], [.int x1, .int 0, .ref 163], sM Ln I1 L1 c s) _
    exact dd_Rn.retK 4 (pc := 18) (ls := [.ref 0, .int a1, .int a2, .ref 163, .null]) (st := [.int 0]) (M := sM Ln I1 (dd_u L1 163 (vp_updL (L1 163) 0 x1.toInt64)) c s) (o := (none, .int 0, sM Ln I1 (dd_u L1 163 (vp_updL (L1 163) 0 x1.toInt64)) c s)) rfl rfl h (by omega)
  · intro E1 I1 L1 h
    rcases h with ⟨rfl, h⟩
    · refine dd_Ah.at (h := 15) (k := 4) rfl rfl ?_
      show dd_Rn (e + 16) m_L_path (15, [.ref 0, .int a1, .int a2, .ref 163, .null], [], sM Ln I1 L1 (c + 1) (s + 6)) _
      exact dd_Rn.retK 1 (pc := 16) (ls := [.ref 0, .int a1, .int a2, .ref 163, .null]) (st := [.int 1]) (M := sM Ln I1 L1 (c + 1) (s + 6)) (o := (none, .int 1, sM Ln I1 L1 (c + 1) (s + 6))) rfl rfl h (by omega)

theorem w_L_soon_0 {Ln d c s : Nat} {I : Nat → Nat → Int32} {L : Nat → Nat → Int64} {Q : dd_O → Prop} {a1 : Int32} (hd : 28 ≤ d) (h : dd_Ev (d - 1) m_X10_soon [.ref 0, .int a1] (sM Ln I L c s) (dd_TI Ln c s (fun x1 I1 L1 => Q (none, .int 0, sM Ln I1 (dd_u L1 163 (vp_updL (L1 163) 0 x1.toInt64)) c s)) (fun E1 I1 L1 => (E1 = 2 ∧ Q (none, .int 1, sM Ln I1 L1 (c + 1) (s + 6)))))) : dd_Ev d m_L_soon [.ref 0, .int a1, .ref 163] (sM Ln I L c s) Q := by
  obtain ⟨e, rfl⟩ : ∃ e, d = e + 16 := ⟨d - 16, by omega⟩
  show dd_Rn (e + 16) m_L_soon (0, [.ref 0, .int a1, .ref 163, .null], [], sM Ln I L c s) Q
  refine dd_Rn.tI 4 (pc := 4) (ls := [.ref 0, .int a1, .ref 163, .null]) (st := [.int a1, .ref 0, .int 0, .ref 163]) (x := m_X10_soon) (as := [.ref 0, .int a1]) (rest := [.int 0, .ref 163]) rfl rfl rfl rfl rfl h ?_ ?_
  · intro x1 I1 L1 h
    show dd_Rn (e + 16) m_L_soon (7, [.ref 0, .int a1, .ref 163, .null], [.int x1, .int 0, .ref 163], sM Ln I1 L1 c s) _
    exact dd_Rn.retK 4 (pc := 16) (ls := [.ref 0, .int a1, .ref 163, .null]) (st := [.int 0]) (M := sM Ln I1 (dd_u L1 163 (vp_updL (L1 163) 0 x1.toInt64)) c s) (o := (none, .int 0, sM Ln I1 (dd_u L1 163 (vp_updL (L1 163) 0 x1.toInt64)) c s)) rfl rfl h (by omega)
  · intro E1 I1 L1 h
    rcases h with ⟨rfl, h⟩
    · refine dd_Ah.at (h := 13) (k := 3) rfl rfl ?_
      show dd_Rn (e + 16) m_L_soon (13, [.ref 0, .int a1, .ref 163, .null], [], sM Ln I1 L1 (c + 1) (s + 6)) _
      exact dd_Rn.retK 1 (pc := 14) (ls := [.ref 0, .int a1, .ref 163, .null]) (st := [.int 1]) (M := sM Ln I1 L1 (c + 1) (s + 6)) (o := (none, .int 1, sM Ln I1 L1 (c + 1) (s + 6))) rfl rfl h (by omega)

theorem w_L_by_0 {Ln d c s : Nat} {I : Nat → Nat → Int32} {L : Nat → Nat → Int64} {Q : dd_O → Prop} {a1 a2 : Int32} (hd : 28 ≤ d) (h : dd_Ev (d - 1) m_X10_by [.ref 0, .int a1, .int a2] (sM Ln I L c s) (dd_TI Ln c s (fun x1 I1 L1 => Q (none, .int 0, sM Ln I1 (dd_u L1 163 (vp_updL (L1 163) 0 x1.toInt64)) c s)) (fun E1 I1 L1 => (E1 = 2 ∧ Q (none, .int 1, sM Ln I1 L1 (c + 1) (s + 6)))))) : dd_Ev d m_L_by [.ref 0, .int a1, .int a2, .ref 163] (sM Ln I L c s) Q := by
  obtain ⟨e, rfl⟩ : ∃ e, d = e + 16 := ⟨d - 16, by omega⟩
  show dd_Rn (e + 16) m_L_by (0, [.ref 0, .int a1, .int a2, .ref 163, .null], [], sM Ln I L c s) Q
  refine dd_Rn.tI 5 (pc := 5) (ls := [.ref 0, .int a1, .int a2, .ref 163, .null]) (st := [.int a2, .int a1, .ref 0, .int 0, .ref 163]) (x := m_X10_by) (as := [.ref 0, .int a1, .int a2]) (rest := [.int 0, .ref 163]) rfl rfl rfl rfl rfl h ?_ ?_
  · intro x1 I1 L1 h
    show dd_Rn (e + 16) m_L_by (8, [.ref 0, .int a1, .int a2, .ref 163, .null], [.int x1, .int 0, .ref 163], sM Ln I1 L1 c s) _
    exact dd_Rn.retK 4 (pc := 18) (ls := [.ref 0, .int a1, .int a2, .ref 163, .null]) (st := [.int 0]) (M := sM Ln I1 (dd_u L1 163 (vp_updL (L1 163) 0 x1.toInt64)) c s) (o := (none, .int 0, sM Ln I1 (dd_u L1 163 (vp_updL (L1 163) 0 x1.toInt64)) c s)) rfl rfl h (by omega)
  · intro E1 I1 L1 h
    rcases h with ⟨rfl, h⟩
    · refine dd_Ah.at (h := 15) (k := 4) rfl rfl ?_
      show dd_Rn (e + 16) m_L_by (15, [.ref 0, .int a1, .int a2, .ref 163, .null], [], sM Ln I1 L1 (c + 1) (s + 6)) _
      exact dd_Rn.retK 1 (pc := 16) (ls := [.ref 0, .int a1, .int a2, .ref 163, .null]) (st := [.int 1]) (M := sM Ln I1 L1 (c + 1) (s + 6)) (o := (none, .int 1, sM Ln I1 L1 (c + 1) (s + 6))) rfl rfl h (by omega)

theorem w_L_best_0 {Ln d c s : Nat} {I : Nat → Nat → Int32} {L : Nat → Nat → Int64} {Q : dd_O → Prop} {a1 : Int32} (hd : 28 ≤ d) (h : dd_Ev (d - 1) m_X10_best [.ref 0, .int a1] (sM Ln I L c s) (dd_TI Ln c s (fun x1 I1 L1 => Q (none, .int 0, sM Ln I1 (dd_u L1 163 (vp_updL (L1 163) 0 x1.toInt64)) c s)) (fun E1 I1 L1 => (E1 = 2 ∧ Q (none, .int 1, sM Ln I1 L1 (c + 1) (s + 6)))))) : dd_Ev d m_L_best [.ref 0, .int a1, .ref 163] (sM Ln I L c s) Q := by
  obtain ⟨e, rfl⟩ : ∃ e, d = e + 16 := ⟨d - 16, by omega⟩
  show dd_Rn (e + 16) m_L_best (0, [.ref 0, .int a1, .ref 163, .null], [], sM Ln I L c s) Q
  refine dd_Rn.tI 4 (pc := 4) (ls := [.ref 0, .int a1, .ref 163, .null]) (st := [.int a1, .ref 0, .int 0, .ref 163]) (x := m_X10_best) (as := [.ref 0, .int a1]) (rest := [.int 0, .ref 163]) rfl rfl rfl rfl rfl h ?_ ?_
  · intro x1 I1 L1 h
    show dd_Rn (e + 16) m_L_best (7, [.ref 0, .int a1, .ref 163, .null], [.int x1, .int 0, .ref 163], sM Ln I1 L1 c s) _
    exact dd_Rn.retK 4 (pc := 16) (ls := [.ref 0, .int a1, .ref 163, .null]) (st := [.int 0]) (M := sM Ln I1 (dd_u L1 163 (vp_updL (L1 163) 0 x1.toInt64)) c s) (o := (none, .int 0, sM Ln I1 (dd_u L1 163 (vp_updL (L1 163) 0 x1.toInt64)) c s)) rfl rfl h (by omega)
  · intro E1 I1 L1 h
    rcases h with ⟨rfl, h⟩
    · refine dd_Ah.at (h := 13) (k := 3) rfl rfl ?_
      show dd_Rn (e + 16) m_L_best (13, [.ref 0, .int a1, .ref 163, .null], [], sM Ln I1 L1 (c + 1) (s + 6)) _
      exact dd_Rn.retK 1 (pc := 14) (ls := [.ref 0, .int a1, .ref 163, .null]) (st := [.int 1]) (M := sM Ln I1 L1 (c + 1) (s + 6)) (o := (none, .int 1, sM Ln I1 L1 (c + 1) (s + 6))) rfl rfl h (by omega)

theorem w_L_calls_0 {Ln d c s : Nat} {I : Nat → Nat → Int32} {L : Nat → Nat → Int64} {Q : dd_O → Prop} {a1 : Int32} (hd : 28 ≤ d) (h : dd_Ev (d - 1) m_X10_calls [.ref 0, .int a1] (sM Ln I L c s) (dd_TI Ln c s (fun x1 I1 L1 => Q (none, .int 0, sM Ln I1 (dd_u L1 163 (vp_updL (L1 163) 0 x1.toInt64)) c s)) (fun E1 I1 L1 => (E1 = 2 ∧ Q (none, .int 1, sM Ln I1 L1 (c + 1) (s + 6)))))) : dd_Ev d m_L_calls [.ref 0, .int a1, .ref 163] (sM Ln I L c s) Q := by
  obtain ⟨e, rfl⟩ : ∃ e, d = e + 16 := ⟨d - 16, by omega⟩
  show dd_Rn (e + 16) m_L_calls (0, [.ref 0, .int a1, .ref 163, .null], [], sM Ln I L c s) Q
  refine dd_Rn.tI 4 (pc := 4) (ls := [.ref 0, .int a1, .ref 163, .null]) (st := [.int a1, .ref 0, .int 0, .ref 163]) (x := m_X10_calls) (as := [.ref 0, .int a1]) (rest := [.int 0, .ref 163]) rfl rfl rfl rfl rfl h ?_ ?_
  · intro x1 I1 L1 h
    show dd_Rn (e + 16) m_L_calls (7, [.ref 0, .int a1, .ref 163, .null], [.int x1, .int 0, .ref 163], sM Ln I1 L1 c s) _
    exact dd_Rn.retK 4 (pc := 16) (ls := [.ref 0, .int a1, .ref 163, .null]) (st := [.int 0]) (M := sM Ln I1 (dd_u L1 163 (vp_updL (L1 163) 0 x1.toInt64)) c s) (o := (none, .int 0, sM Ln I1 (dd_u L1 163 (vp_updL (L1 163) 0 x1.toInt64)) c s)) rfl rfl h (by omega)
  · intro E1 I1 L1 h
    rcases h with ⟨rfl, h⟩
    · refine dd_Ah.at (h := 13) (k := 3) rfl rfl ?_
      show dd_Rn (e + 16) m_L_calls (13, [.ref 0, .int a1, .ref 163, .null], [], sM Ln I1 L1 (c + 1) (s + 6)) _
      exact dd_Rn.retK 1 (pc := 14) (ls := [.ref 0, .int a1, .ref 163, .null]) (st := [.int 1]) (M := sM Ln I1 L1 (c + 1) (s + 6)) (o := (none, .int 1, sM Ln I1 L1 (c + 1) (s + 6))) rfl rfl h (by omega)

theorem w_L_first_0 {Ln d c s : Nat} {I : Nat → Nat → Int32} {L : Nat → Nat → Int64} {Q : dd_O → Prop} {a1 : Int32} (hd : 28 ≤ d) (h : dd_Ev (d - 1) m_X10_first [.ref 0, .int a1] (sM Ln I L c s) (dd_TI Ln c s (fun x1 I1 L1 => Q (none, .int 0, sM Ln I1 (dd_u L1 163 (vp_updL (L1 163) 0 x1.toInt64)) c s)) (fun E1 I1 L1 => (E1 = 2 ∧ Q (none, .int 1, sM Ln I1 L1 (c + 1) (s + 6)))))) : dd_Ev d m_L_first [.ref 0, .int a1, .ref 163] (sM Ln I L c s) Q := by
  obtain ⟨e, rfl⟩ : ∃ e, d = e + 16 := ⟨d - 16, by omega⟩
  show dd_Rn (e + 16) m_L_first (0, [.ref 0, .int a1, .ref 163, .null], [], sM Ln I L c s) Q
  refine dd_Rn.tI 4 (pc := 4) (ls := [.ref 0, .int a1, .ref 163, .null]) (st := [.int a1, .ref 0, .int 0, .ref 163]) (x := m_X10_first) (as := [.ref 0, .int a1]) (rest := [.int 0, .ref 163]) rfl rfl rfl rfl rfl h ?_ ?_
  · intro x1 I1 L1 h
    show dd_Rn (e + 16) m_L_first (7, [.ref 0, .int a1, .ref 163, .null], [.int x1, .int 0, .ref 163], sM Ln I1 L1 c s) _
    exact dd_Rn.retK 4 (pc := 16) (ls := [.ref 0, .int a1, .ref 163, .null]) (st := [.int 0]) (M := sM Ln I1 (dd_u L1 163 (vp_updL (L1 163) 0 x1.toInt64)) c s) (o := (none, .int 0, sM Ln I1 (dd_u L1 163 (vp_updL (L1 163) 0 x1.toInt64)) c s)) rfl rfl h (by omega)
  · intro E1 I1 L1 h
    rcases h with ⟨rfl, h⟩
    · refine dd_Ah.at (h := 13) (k := 3) rfl rfl ?_
      show dd_Rn (e + 16) m_L_first (13, [.ref 0, .int a1, .ref 163, .null], [], sM Ln I1 L1 (c + 1) (s + 6)) _
      exact dd_Rn.retK 1 (pc := 14) (ls := [.ref 0, .int a1, .ref 163, .null]) (st := [.int 1]) (M := sM Ln I1 L1 (c + 1) (s + 6)) (o := (none, .int 1, sM Ln I1 L1 (c + 1) (s + 6))) rfl rfl h (by omega)

theorem w_L_can_0 {Ln d c s : Nat} {I : Nat → Nat → Int32} {L : Nat → Nat → Int64} {Q : dd_O → Prop} {a1 a2 : Int32} (hd : 28 ≤ d) (h : dd_Ev (d - 1) m_X10_can [.ref 0, .int a1, .int a2] (sM Ln I L c s) (dd_TI Ln c s (fun x1 I1 L1 => Q (none, .int 0, sM Ln I1 (dd_u L1 163 (vp_updL (L1 163) 0 x1.toInt64)) c s)) (fun E1 I1 L1 => (E1 = 2 ∧ Q (none, .int 1, sM Ln I1 L1 (c + 1) (s + 6))) ∨ (E1 = 0 ∧ Q (none, .int 2, sM Ln I1 L1 (c + 1) (s + 6)))))) : dd_Ev d m_L_can [.ref 0, .int a1, .int a2, .ref 163] (sM Ln I L c s) Q := by
  obtain ⟨e, rfl⟩ : ∃ e, d = e + 16 := ⟨d - 16, by omega⟩
  show dd_Rn (e + 16) m_L_can (0, [.ref 0, .int a1, .int a2, .ref 163, .null], [], sM Ln I L c s) Q
  refine dd_Rn.tI 5 (pc := 5) (ls := [.ref 0, .int a1, .int a2, .ref 163, .null]) (st := [.int a2, .int a1, .ref 0, .int 0, .ref 163]) (x := m_X10_can) (as := [.ref 0, .int a1, .int a2]) (rest := [.int 0, .ref 163]) rfl rfl rfl rfl rfl h ?_ ?_
  · intro x1 I1 L1 h
    show dd_Rn (e + 16) m_L_can (8, [.ref 0, .int a1, .int a2, .ref 163, .null], [.int x1, .int 0, .ref 163], sM Ln I1 L1 c s) _
    exact dd_Rn.retK 4 (pc := 22) (ls := [.ref 0, .int a1, .int a2, .ref 163, .null]) (st := [.int 0]) (M := sM Ln I1 (dd_u L1 163 (vp_updL (L1 163) 0 x1.toInt64)) c s) (o := (none, .int 0, sM Ln I1 (dd_u L1 163 (vp_updL (L1 163) 0 x1.toInt64)) c s)) rfl rfl h (by omega)
  · intro E1 I1 L1 h
    rcases h with ⟨rfl, h⟩ | ⟨rfl, h⟩
    · refine dd_Ah.at (h := 15) (k := 4) rfl rfl ?_
      show dd_Rn (e + 16) m_L_can (15, [.ref 0, .int a1, .int a2, .ref 163, .null], [], sM Ln I1 L1 (c + 1) (s + 6)) _
      exact dd_Rn.retK 1 (pc := 16) (ls := [.ref 0, .int a1, .int a2, .ref 163, .null]) (st := [.int 1]) (M := sM Ln I1 L1 (c + 1) (s + 6)) (o := (none, .int 1, sM Ln I1 L1 (c + 1) (s + 6))) rfl rfl h (by omega)
    · refine dd_Ah.at (h := 19) (k := 4) rfl rfl ?_
      show dd_Rn (e + 16) m_L_can (19, [.ref 0, .int a1, .int a2, .ref 163, .null], [], sM Ln I1 L1 (c + 1) (s + 6)) _
      exact dd_Rn.retK 1 (pc := 20) (ls := [.ref 0, .int a1, .int a2, .ref 163, .null]) (st := [.int 2]) (M := sM Ln I1 L1 (c + 1) (s + 6)) (o := (none, .int 2, sM Ln I1 L1 (c + 1) (s + 6))) rfl rfl h (by omega)

theorem w_L_lost_0 {Ln d c s : Nat} {I : Nat → Nat → Int32} {L : Nat → Nat → Int64} {Q : dd_O → Prop} {a1 a2 : Int32} (hd : 28 ≤ d) (h : dd_Ev (d - 1) m_X10_lost [.ref 0, .int a1, .int a2] (sM Ln I L c s) (dd_TI Ln c s (fun x1 I1 L1 => Q (none, .int 0, sM Ln I1 (dd_u L1 163 (vp_updL (L1 163) 0 x1.toInt64)) c s)) (fun E1 I1 L1 => (E1 = 2 ∧ Q (none, .int 1, sM Ln I1 L1 (c + 1) (s + 6))) ∨ (E1 = 0 ∧ Q (none, .int 2, sM Ln I1 L1 (c + 1) (s + 6)))))) : dd_Ev d m_L_lost [.ref 0, .int a1, .int a2, .ref 163] (sM Ln I L c s) Q := by
  obtain ⟨e, rfl⟩ : ∃ e, d = e + 16 := ⟨d - 16, by omega⟩
  show dd_Rn (e + 16) m_L_lost (0, [.ref 0, .int a1, .int a2, .ref 163, .null], [], sM Ln I L c s) Q
  refine dd_Rn.tI 5 (pc := 5) (ls := [.ref 0, .int a1, .int a2, .ref 163, .null]) (st := [.int a2, .int a1, .ref 0, .int 0, .ref 163]) (x := m_X10_lost) (as := [.ref 0, .int a1, .int a2]) (rest := [.int 0, .ref 163]) rfl rfl rfl rfl rfl h ?_ ?_
  · intro x1 I1 L1 h
    show dd_Rn (e + 16) m_L_lost (8, [.ref 0, .int a1, .int a2, .ref 163, .null], [.int x1, .int 0, .ref 163], sM Ln I1 L1 c s) _
    exact dd_Rn.retK 4 (pc := 22) (ls := [.ref 0, .int a1, .int a2, .ref 163, .null]) (st := [.int 0]) (M := sM Ln I1 (dd_u L1 163 (vp_updL (L1 163) 0 x1.toInt64)) c s) (o := (none, .int 0, sM Ln I1 (dd_u L1 163 (vp_updL (L1 163) 0 x1.toInt64)) c s)) rfl rfl h (by omega)
  · intro E1 I1 L1 h
    rcases h with ⟨rfl, h⟩ | ⟨rfl, h⟩
    · refine dd_Ah.at (h := 15) (k := 4) rfl rfl ?_
      show dd_Rn (e + 16) m_L_lost (15, [.ref 0, .int a1, .int a2, .ref 163, .null], [], sM Ln I1 L1 (c + 1) (s + 6)) _
      exact dd_Rn.retK 1 (pc := 16) (ls := [.ref 0, .int a1, .int a2, .ref 163, .null]) (st := [.int 1]) (M := sM Ln I1 L1 (c + 1) (s + 6)) (o := (none, .int 1, sM Ln I1 L1 (c + 1) (s + 6))) rfl rfl h (by omega)
    · refine dd_Ah.at (h := 19) (k := 4) rfl rfl ?_
      show dd_Rn (e + 16) m_L_lost (19, [.ref 0, .int a1, .int a2, .ref 163, .null], [], sM Ln I1 L1 (c + 1) (s + 6)) _
      exact dd_Rn.retK 1 (pc := 20) (ls := [.ref 0, .int a1, .int a2, .ref 163, .null]) (st := [.int 2]) (M := sM Ln I1 L1 (c + 1) (s + 6)) (o := (none, .int 2, sM Ln I1 L1 (c + 1) (s + 6))) rfl rfl h (by omega)

theorem w_L_sounds_0 {Ln d c s : Nat} {I : Nat → Nat → Int32} {L : Nat → Nat → Int64} {Q : dd_O → Prop} {a1 : Int32} (hd : 28 ≤ d) (h : dd_Ev (d - 1) m_X10_sounds [.ref 0, .int a1] (sM Ln I L c s) (dd_TI Ln c s (fun x1 I1 L1 => Q (none, .int 0, sM Ln I1 (dd_u L1 163 (vp_updL (L1 163) 0 x1.toInt64)) c s)) (fun E1 I1 L1 => (E1 = 0 ∧ Q (none, .int 1, sM Ln I1 L1 (c + 1) (s + 6)))))) : dd_Ev d m_L_sounds [.ref 0, .int a1, .ref 163] (sM Ln I L c s) Q := by
  obtain ⟨e, rfl⟩ : ∃ e, d = e + 16 := ⟨d - 16, by omega⟩
  show dd_Rn (e + 16) m_L_sounds (0, [.ref 0, .int a1, .ref 163, .null], [], sM Ln I L c s) Q
  refine dd_Rn.tI 4 (pc := 4) (ls := [.ref 0, .int a1, .ref 163, .null]) (st := [.int a1, .ref 0, .int 0, .ref 163]) (x := m_X10_sounds) (as := [.ref 0, .int a1]) (rest := [.int 0, .ref 163]) rfl rfl rfl rfl rfl h ?_ ?_
  · intro x1 I1 L1 h
    show dd_Rn (e + 16) m_L_sounds (7, [.ref 0, .int a1, .ref 163, .null], [.int x1, .int 0, .ref 163], sM Ln I1 L1 c s) _
    exact dd_Rn.retK 4 (pc := 16) (ls := [.ref 0, .int a1, .ref 163, .null]) (st := [.int 0]) (M := sM Ln I1 (dd_u L1 163 (vp_updL (L1 163) 0 x1.toInt64)) c s) (o := (none, .int 0, sM Ln I1 (dd_u L1 163 (vp_updL (L1 163) 0 x1.toInt64)) c s)) rfl rfl h (by omega)
  · intro E1 I1 L1 h
    rcases h with ⟨rfl, h⟩
    · refine dd_Ah.at (h := 13) (k := 3) rfl rfl ?_
      show dd_Rn (e + 16) m_L_sounds (13, [.ref 0, .int a1, .ref 163, .null], [], sM Ln I1 L1 (c + 1) (s + 6)) _
      exact dd_Rn.retK 1 (pc := 14) (ls := [.ref 0, .int a1, .ref 163, .null]) (st := [.int 1]) (M := sM Ln I1 L1 (c + 1) (s + 6)) (o := (none, .int 1, sM Ln I1 L1 (c + 1) (s + 6))) rfl rfl h (by omega)

theorem w_L_listen_0 {Ln d c s : Nat} {I : Nat → Nat → Int32} {L : Nat → Nat → Int64} {Q : dd_O → Prop} (hd : 28 ≤ d) (h : dd_Ev (d - 1) m_X10_listen [.ref 0] (sM Ln I L c s) (dd_TI Ln c s (fun x1 I1 L1 => Q (none, .int 0, sM Ln I1 (dd_u L1 163 (vp_updL (L1 163) 0 x1.toInt64)) c s)) (fun E1 I1 L1 => (E1 = 0 ∧ Q (none, .int 1, sM Ln I1 L1 (c + 1) (s + 6)))))) : dd_Ev d m_L_listen [.ref 0, .ref 163] (sM Ln I L c s) Q := by
  obtain ⟨e, rfl⟩ : ∃ e, d = e + 16 := ⟨d - 16, by omega⟩
  show dd_Rn (e + 16) m_L_listen (0, [.ref 0, .ref 163, .null], [], sM Ln I L c s) Q
  refine dd_Rn.tI 3 (pc := 3) (ls := [.ref 0, .ref 163, .null]) (st := [.ref 0, .int 0, .ref 163]) (x := m_X10_listen) (as := [.ref 0]) (rest := [.int 0, .ref 163]) rfl rfl rfl rfl rfl h ?_ ?_
  · intro x1 I1 L1 h
    show dd_Rn (e + 16) m_L_listen (6, [.ref 0, .ref 163, .null], [.int x1, .int 0, .ref 163], sM Ln I1 L1 c s) _
    exact dd_Rn.retK 4 (pc := 15) (ls := [.ref 0, .ref 163, .null]) (st := [.int 0]) (M := sM Ln I1 (dd_u L1 163 (vp_updL (L1 163) 0 x1.toInt64)) c s) (o := (none, .int 0, sM Ln I1 (dd_u L1 163 (vp_updL (L1 163) 0 x1.toInt64)) c s)) rfl rfl h (by omega)
  · intro E1 I1 L1 h
    rcases h with ⟨rfl, h⟩
    · refine dd_Ah.at (h := 12) (k := 2) rfl rfl ?_
      show dd_Rn (e + 16) m_L_listen (12, [.ref 0, .ref 163, .null], [], sM Ln I1 L1 (c + 1) (s + 6)) _
      exact dd_Rn.retK 1 (pc := 13) (ls := [.ref 0, .ref 163, .null]) (st := [.int 1]) (M := sM Ln I1 L1 (c + 1) (s + 6)) (o := (none, .int 1, sM Ln I1 L1 (c + 1) (s + 6))) rfl rfl h (by omega)

theorem w_L_ears_0 {Ln d c s : Nat} {I : Nat → Nat → Int32} {L : Nat → Nat → Int64} {Q : dd_O → Prop} {a1 : Int32} (hd : 28 ≤ d) (h : dd_Ev (d - 1) m_X10_ears [.ref 0, .int a1] (sM Ln I L c s) (dd_TI Ln c s (fun x1 I1 L1 => Q (none, .int 0, sM Ln I1 (dd_u L1 163 (vp_updL (L1 163) 0 x1.toInt64)) c s)) (fun E1 I1 L1 => (E1 = 2 ∧ Q (none, .int 1, sM Ln I1 L1 (c + 1) (s + 6))) ∨ (E1 = 0 ∧ Q (none, .int 2, sM Ln I1 L1 (c + 1) (s + 6)))))) : dd_Ev d m_L_ears [.ref 0, .int a1, .ref 163] (sM Ln I L c s) Q := by
  obtain ⟨e, rfl⟩ : ∃ e, d = e + 16 := ⟨d - 16, by omega⟩
  show dd_Rn (e + 16) m_L_ears (0, [.ref 0, .int a1, .ref 163, .null], [], sM Ln I L c s) Q
  refine dd_Rn.tI 4 (pc := 4) (ls := [.ref 0, .int a1, .ref 163, .null]) (st := [.int a1, .ref 0, .int 0, .ref 163]) (x := m_X10_ears) (as := [.ref 0, .int a1]) (rest := [.int 0, .ref 163]) rfl rfl rfl rfl rfl h ?_ ?_
  · intro x1 I1 L1 h
    show dd_Rn (e + 16) m_L_ears (7, [.ref 0, .int a1, .ref 163, .null], [.int x1, .int 0, .ref 163], sM Ln I1 L1 c s) _
    exact dd_Rn.retK 4 (pc := 19) (ls := [.ref 0, .int a1, .ref 163, .null]) (st := [.int 0]) (M := sM Ln I1 (dd_u L1 163 (vp_updL (L1 163) 0 x1.toInt64)) c s) (o := (none, .int 0, sM Ln I1 (dd_u L1 163 (vp_updL (L1 163) 0 x1.toInt64)) c s)) rfl rfl h (by omega)
  · intro E1 I1 L1 h
    rcases h with ⟨rfl, h⟩ | ⟨rfl, h⟩
    · refine dd_Ah.at (h := 13) (k := 3) rfl rfl ?_
      show dd_Rn (e + 16) m_L_ears (13, [.ref 0, .int a1, .ref 163, .null], [], sM Ln I1 L1 (c + 1) (s + 6)) _
      exact dd_Rn.retK 1 (pc := 14) (ls := [.ref 0, .int a1, .ref 163, .null]) (st := [.int 1]) (M := sM Ln I1 L1 (c + 1) (s + 6)) (o := (none, .int 1, sM Ln I1 L1 (c + 1) (s + 6))) rfl rfl h (by omega)
    · refine dd_Ah.at (h := 16) (k := 3) rfl rfl ?_
      show dd_Rn (e + 16) m_L_ears (16, [.ref 0, .int a1, .ref 163, .null], [], sM Ln I1 L1 (c + 1) (s + 6)) _
      exact dd_Rn.retK 1 (pc := 17) (ls := [.ref 0, .int a1, .ref 163, .null]) (st := [.int 2]) (M := sM Ln I1 L1 (c + 1) (s + 6)) (o := (none, .int 2, sM Ln I1 L1 (c + 1) (s + 6))) rfl rfl h (by omega)

theorem w_L_shifted_0 {Ln d c s : Nat} {I : Nat → Nat → Int32} {L : Nat → Nat → Int64} {Q : dd_O → Prop} {a1 a2 : Int32} (hd : 28 ≤ d) (h : dd_Ev (d - 1) m_X10_shifted [.ref 0, .int a1, .int a2] (sM Ln I L c s) (dd_TI Ln c s (fun x1 I1 L1 => Q (none, .int 0, sM Ln I1 (dd_u L1 163 (vp_updL (L1 163) 0 x1.toInt64)) c s)) (fun E1 I1 L1 => (E1 = 2 ∧ Q (none, .int 1, sM Ln I1 L1 (c + 1) (s + 6))) ∨ (E1 = 0 ∧ Q (none, .int 2, sM Ln I1 L1 (c + 1) (s + 6)))))) : dd_Ev d m_L_shifted [.ref 0, .int a1, .int a2, .ref 163] (sM Ln I L c s) Q := by
  obtain ⟨e, rfl⟩ : ∃ e, d = e + 16 := ⟨d - 16, by omega⟩
  show dd_Rn (e + 16) m_L_shifted (0, [.ref 0, .int a1, .int a2, .ref 163, .null], [], sM Ln I L c s) Q
  refine dd_Rn.tI 5 (pc := 5) (ls := [.ref 0, .int a1, .int a2, .ref 163, .null]) (st := [.int a2, .int a1, .ref 0, .int 0, .ref 163]) (x := m_X10_shifted) (as := [.ref 0, .int a1, .int a2]) (rest := [.int 0, .ref 163]) rfl rfl rfl rfl rfl h ?_ ?_
  · intro x1 I1 L1 h
    show dd_Rn (e + 16) m_L_shifted (8, [.ref 0, .int a1, .int a2, .ref 163, .null], [.int x1, .int 0, .ref 163], sM Ln I1 L1 c s) _
    exact dd_Rn.retK 4 (pc := 22) (ls := [.ref 0, .int a1, .int a2, .ref 163, .null]) (st := [.int 0]) (M := sM Ln I1 (dd_u L1 163 (vp_updL (L1 163) 0 x1.toInt64)) c s) (o := (none, .int 0, sM Ln I1 (dd_u L1 163 (vp_updL (L1 163) 0 x1.toInt64)) c s)) rfl rfl h (by omega)
  · intro E1 I1 L1 h
    rcases h with ⟨rfl, h⟩ | ⟨rfl, h⟩
    · refine dd_Ah.at (h := 15) (k := 4) rfl rfl ?_
      show dd_Rn (e + 16) m_L_shifted (15, [.ref 0, .int a1, .int a2, .ref 163, .null], [], sM Ln I1 L1 (c + 1) (s + 6)) _
      exact dd_Rn.retK 1 (pc := 16) (ls := [.ref 0, .int a1, .int a2, .ref 163, .null]) (st := [.int 1]) (M := sM Ln I1 L1 (c + 1) (s + 6)) (o := (none, .int 1, sM Ln I1 L1 (c + 1) (s + 6))) rfl rfl h (by omega)
    · refine dd_Ah.at (h := 19) (k := 4) rfl rfl ?_
      show dd_Rn (e + 16) m_L_shifted (19, [.ref 0, .int a1, .int a2, .ref 163, .null], [], sM Ln I1 L1 (c + 1) (s + 6)) _
      exact dd_Rn.retK 1 (pc := 20) (ls := [.ref 0, .int a1, .int a2, .ref 163, .null]) (st := [.int 2]) (M := sM Ln I1 L1 (c + 1) (s + 6)) (o := (none, .int 2, sM Ln I1 L1 (c + 1) (s + 6))) rfl rfl h (by omega)

theorem w_L_silence_0 {Ln d c s : Nat} {I : Nat → Nat → Int32} {L : Nat → Nat → Int64} {Q : dd_O → Prop} {a1 : Int32} (hd : 28 ≤ d) (h : dd_Ev (d - 1) m_X10_silence [.ref 0, .int a1] (sM Ln I L c s) (dd_TI Ln c s (fun x1 I1 L1 => Q (none, .int 0, sM Ln I1 (dd_u L1 163 (vp_updL (L1 163) 0 x1.toInt64)) c s)) (fun E1 I1 L1 => (E1 = 2 ∧ Q (none, .int 1, sM Ln I1 L1 (c + 1) (s + 6)))))) : dd_Ev d m_L_silence [.ref 0, .int a1, .ref 163] (sM Ln I L c s) Q := by
  obtain ⟨e, rfl⟩ : ∃ e, d = e + 16 := ⟨d - 16, by omega⟩
  show dd_Rn (e + 16) m_L_silence (0, [.ref 0, .int a1, .ref 163, .null], [], sM Ln I L c s) Q
  refine dd_Rn.tI 4 (pc := 4) (ls := [.ref 0, .int a1, .ref 163, .null]) (st := [.int a1, .ref 0, .int 0, .ref 163]) (x := m_X10_silence) (as := [.ref 0, .int a1]) (rest := [.int 0, .ref 163]) rfl rfl rfl rfl rfl h ?_ ?_
  · intro x1 I1 L1 h
    show dd_Rn (e + 16) m_L_silence (7, [.ref 0, .int a1, .ref 163, .null], [.int x1, .int 0, .ref 163], sM Ln I1 L1 c s) _
    exact dd_Rn.retK 4 (pc := 16) (ls := [.ref 0, .int a1, .ref 163, .null]) (st := [.int 0]) (M := sM Ln I1 (dd_u L1 163 (vp_updL (L1 163) 0 x1.toInt64)) c s) (o := (none, .int 0, sM Ln I1 (dd_u L1 163 (vp_updL (L1 163) 0 x1.toInt64)) c s)) rfl rfl h (by omega)
  · intro E1 I1 L1 h
    rcases h with ⟨rfl, h⟩
    · refine dd_Ah.at (h := 13) (k := 3) rfl rfl ?_
      show dd_Rn (e + 16) m_L_silence (13, [.ref 0, .int a1, .ref 163, .null], [], sM Ln I1 L1 (c + 1) (s + 6)) _
      exact dd_Rn.retK 1 (pc := 14) (ls := [.ref 0, .int a1, .ref 163, .null]) (st := [.int 1]) (M := sM Ln I1 L1 (c + 1) (s + 6)) (o := (none, .int 1, sM Ln I1 L1 (c + 1) (s + 6))) rfl rfl h (by omega)

theorem w_L_hush_0 {Ln d c s : Nat} {I : Nat → Nat → Int32} {L : Nat → Nat → Int64} {Q : dd_O → Prop} {a1 : Int32} (hd : 28 ≤ d) (h : dd_Ev (d - 1) m_X10_hush [.ref 0, .int a1] (sM Ln I L c s) (dd_TI Ln c s (fun x1 I1 L1 => Q (none, .int 0, sM Ln I1 (dd_u L1 163 (vp_updL (L1 163) 0 x1.toInt64)) c s)) (fun E1 I1 L1 => (E1 = 2 ∧ Q (none, .int 1, sM Ln I1 L1 (c + 1) (s + 6)))))) : dd_Ev d m_L_hush [.ref 0, .int a1, .ref 163] (sM Ln I L c s) Q := by
  obtain ⟨e, rfl⟩ : ∃ e, d = e + 16 := ⟨d - 16, by omega⟩
  show dd_Rn (e + 16) m_L_hush (0, [.ref 0, .int a1, .ref 163, .null], [], sM Ln I L c s) Q
  refine dd_Rn.tI 4 (pc := 4) (ls := [.ref 0, .int a1, .ref 163, .null]) (st := [.int a1, .ref 0, .int 0, .ref 163]) (x := m_X10_hush) (as := [.ref 0, .int a1]) (rest := [.int 0, .ref 163]) rfl rfl rfl rfl rfl h ?_ ?_
  · intro x1 I1 L1 h
    show dd_Rn (e + 16) m_L_hush (7, [.ref 0, .int a1, .ref 163, .null], [.int x1, .int 0, .ref 163], sM Ln I1 L1 c s) _
    exact dd_Rn.retK 4 (pc := 16) (ls := [.ref 0, .int a1, .ref 163, .null]) (st := [.int 0]) (M := sM Ln I1 (dd_u L1 163 (vp_updL (L1 163) 0 x1.toInt64)) c s) (o := (none, .int 0, sM Ln I1 (dd_u L1 163 (vp_updL (L1 163) 0 x1.toInt64)) c s)) rfl rfl h (by omega)
  · intro E1 I1 L1 h
    rcases h with ⟨rfl, h⟩
    · refine dd_Ah.at (h := 13) (k := 3) rfl rfl ?_
      show dd_Rn (e + 16) m_L_hush (13, [.ref 0, .int a1, .ref 163, .null], [], sM Ln I1 L1 (c + 1) (s + 6)) _
      exact dd_Rn.retK 1 (pc := 14) (ls := [.ref 0, .int a1, .ref 163, .null]) (st := [.int 1]) (M := sM Ln I1 L1 (c + 1) (s + 6)) (o := (none, .int 1, sM Ln I1 L1 (c + 1) (s + 6))) rfl rfl h (by omega)

theorem w_L_mends_0 {Ln d c s : Nat} {I : Nat → Nat → Int32} {L : Nat → Nat → Int64} {Q : dd_O → Prop} {a1 : Int32} (hd : 28 ≤ d) (h : dd_Ev (d - 1) m_X10_mends [.ref 0, .int a1] (sM Ln I L c s) (dd_TI Ln c s (fun x1 I1 L1 => Q (none, .int 0, sM Ln I1 (dd_u L1 163 (vp_updL (L1 163) 0 x1.toInt64)) c s)) (fun E1 I1 L1 => (E1 = 2 ∧ Q (none, .int 1, sM Ln I1 L1 (c + 1) (s + 6)))))) : dd_Ev d m_L_mends [.ref 0, .int a1, .ref 163] (sM Ln I L c s) Q := by
  obtain ⟨e, rfl⟩ : ∃ e, d = e + 16 := ⟨d - 16, by omega⟩
  show dd_Rn (e + 16) m_L_mends (0, [.ref 0, .int a1, .ref 163, .null], [], sM Ln I L c s) Q
  refine dd_Rn.tI 4 (pc := 4) (ls := [.ref 0, .int a1, .ref 163, .null]) (st := [.int a1, .ref 0, .int 0, .ref 163]) (x := m_X10_mends) (as := [.ref 0, .int a1]) (rest := [.int 0, .ref 163]) rfl rfl rfl rfl rfl h ?_ ?_
  · intro x1 I1 L1 h
    show dd_Rn (e + 16) m_L_mends (7, [.ref 0, .int a1, .ref 163, .null], [.int x1, .int 0, .ref 163], sM Ln I1 L1 c s) _
    exact dd_Rn.retK 4 (pc := 16) (ls := [.ref 0, .int a1, .ref 163, .null]) (st := [.int 0]) (M := sM Ln I1 (dd_u L1 163 (vp_updL (L1 163) 0 x1.toInt64)) c s) (o := (none, .int 0, sM Ln I1 (dd_u L1 163 (vp_updL (L1 163) 0 x1.toInt64)) c s)) rfl rfl h (by omega)
  · intro E1 I1 L1 h
    rcases h with ⟨rfl, h⟩
    · refine dd_Ah.at (h := 13) (k := 3) rfl rfl ?_
      show dd_Rn (e + 16) m_L_mends (13, [.ref 0, .int a1, .ref 163, .null], [], sM Ln I1 L1 (c + 1) (s + 6)) _
      exact dd_Rn.retK 1 (pc := 14) (ls := [.ref 0, .int a1, .ref 163, .null]) (st := [.int 1]) (M := sM Ln I1 L1 (c + 1) (s + 6)) (o := (none, .int 1, sM Ln I1 L1 (c + 1) (s + 6))) rfl rfl h (by omega)

theorem w_L_meet_0 {Ln d c s : Nat} {I : Nat → Nat → Int32} {L : Nat → Nat → Int64} {Q : dd_O → Prop} {a1 a2 : Int32} (hd : 28 ≤ d) (h : dd_Ev (d - 1) m_X10_meet [.ref 0, .int a1, .int a2] (sM Ln I L c s) (dd_TI Ln c s (fun x1 I1 L1 => Q (none, .int 0, sM Ln I1 (dd_u L1 163 (vp_updL (L1 163) 0 x1.toInt64)) c s)) (fun E1 I1 L1 => (E1 = 2 ∧ Q (none, .int 1, sM Ln I1 L1 (c + 1) (s + 6))) ∨ (E1 = 0 ∧ Q (none, .int 2, sM Ln I1 L1 (c + 1) (s + 6)))))) : dd_Ev d m_L_meet [.ref 0, .int a1, .int a2, .ref 163] (sM Ln I L c s) Q := by
  obtain ⟨e, rfl⟩ : ∃ e, d = e + 16 := ⟨d - 16, by omega⟩
  show dd_Rn (e + 16) m_L_meet (0, [.ref 0, .int a1, .int a2, .ref 163, .null], [], sM Ln I L c s) Q
  refine dd_Rn.tI 5 (pc := 5) (ls := [.ref 0, .int a1, .int a2, .ref 163, .null]) (st := [.int a2, .int a1, .ref 0, .int 0, .ref 163]) (x := m_X10_meet) (as := [.ref 0, .int a1, .int a2]) (rest := [.int 0, .ref 163]) rfl rfl rfl rfl rfl h ?_ ?_
  · intro x1 I1 L1 h
    show dd_Rn (e + 16) m_L_meet (8, [.ref 0, .int a1, .int a2, .ref 163, .null], [.int x1, .int 0, .ref 163], sM Ln I1 L1 c s) _
    exact dd_Rn.retK 4 (pc := 22) (ls := [.ref 0, .int a1, .int a2, .ref 163, .null]) (st := [.int 0]) (M := sM Ln I1 (dd_u L1 163 (vp_updL (L1 163) 0 x1.toInt64)) c s) (o := (none, .int 0, sM Ln I1 (dd_u L1 163 (vp_updL (L1 163) 0 x1.toInt64)) c s)) rfl rfl h (by omega)
  · intro E1 I1 L1 h
    rcases h with ⟨rfl, h⟩ | ⟨rfl, h⟩
    · refine dd_Ah.at (h := 15) (k := 4) rfl rfl ?_
      show dd_Rn (e + 16) m_L_meet (15, [.ref 0, .int a1, .int a2, .ref 163, .null], [], sM Ln I1 L1 (c + 1) (s + 6)) _
      exact dd_Rn.retK 1 (pc := 16) (ls := [.ref 0, .int a1, .int a2, .ref 163, .null]) (st := [.int 1]) (M := sM Ln I1 L1 (c + 1) (s + 6)) (o := (none, .int 1, sM Ln I1 L1 (c + 1) (s + 6))) rfl rfl h (by omega)
    · refine dd_Ah.at (h := 19) (k := 4) rfl rfl ?_
      show dd_Rn (e + 16) m_L_meet (19, [.ref 0, .int a1, .int a2, .ref 163, .null], [], sM Ln I1 L1 (c + 1) (s + 6)) _
      exact dd_Rn.retK 1 (pc := 20) (ls := [.ref 0, .int a1, .int a2, .ref 163, .null]) (st := [.int 2]) (M := sM Ln I1 L1 (c + 1) (s + 6)) (o := (none, .int 2, sM Ln I1 L1 (c + 1) (s + 6))) rfl rfl h (by omega)

theorem w_L_rests_0 {Ln d c s : Nat} {I : Nat → Nat → Int32} {L : Nat → Nat → Int64} {Q : dd_O → Prop} {a1 : Int32} (hd : 28 ≤ d) (h : dd_Ev (d - 1) m_X10_rests [.ref 0, .int a1] (sM Ln I L c s) (dd_TI Ln c s (fun x1 I1 L1 => Q (none, .int 0, sM Ln I1 (dd_u L1 163 (vp_updL (L1 163) 0 x1.toInt64)) c s)) (fun E1 I1 L1 => (E1 = 2 ∧ Q (none, .int 1, sM Ln I1 L1 (c + 1) (s + 6)))))) : dd_Ev d m_L_rests [.ref 0, .int a1, .ref 163] (sM Ln I L c s) Q := by
  obtain ⟨e, rfl⟩ : ∃ e, d = e + 16 := ⟨d - 16, by omega⟩
  show dd_Rn (e + 16) m_L_rests (0, [.ref 0, .int a1, .ref 163, .null], [], sM Ln I L c s) Q
  refine dd_Rn.tI 4 (pc := 4) (ls := [.ref 0, .int a1, .ref 163, .null]) (st := [.int a1, .ref 0, .int 0, .ref 163]) (x := m_X10_rests) (as := [.ref 0, .int a1]) (rest := [.int 0, .ref 163]) rfl rfl rfl rfl rfl h ?_ ?_
  · intro x1 I1 L1 h
    show dd_Rn (e + 16) m_L_rests (7, [.ref 0, .int a1, .ref 163, .null], [.int x1, .int 0, .ref 163], sM Ln I1 L1 c s) _
    exact dd_Rn.retK 4 (pc := 16) (ls := [.ref 0, .int a1, .ref 163, .null]) (st := [.int 0]) (M := sM Ln I1 (dd_u L1 163 (vp_updL (L1 163) 0 x1.toInt64)) c s) (o := (none, .int 0, sM Ln I1 (dd_u L1 163 (vp_updL (L1 163) 0 x1.toInt64)) c s)) rfl rfl h (by omega)
  · intro E1 I1 L1 h
    rcases h with ⟨rfl, h⟩
    · refine dd_Ah.at (h := 13) (k := 3) rfl rfl ?_
      show dd_Rn (e + 16) m_L_rests (13, [.ref 0, .int a1, .ref 163, .null], [], sM Ln I1 L1 (c + 1) (s + 6)) _
      exact dd_Rn.retK 1 (pc := 14) (ls := [.ref 0, .int a1, .ref 163, .null]) (st := [.int 1]) (M := sM Ln I1 L1 (c + 1) (s + 6)) (o := (none, .int 1, sM Ln I1 L1 (c + 1) (s + 6))) rfl rfl h (by omega)

theorem w_L_odds_0 {Ln d c s : Nat} {I : Nat → Nat → Int32} {L : Nat → Nat → Int64} {Q : dd_O → Prop} {a1 a2 : Int32} (hd : 28 ≤ d) (h : dd_Ev (d - 1) m_X10_odds [.ref 0, .int a1, .int a2] (sM Ln I L c s) (dd_TI Ln c s (fun x1 I1 L1 => Q (none, .int 0, sM Ln I1 (dd_u L1 163 (vp_updL (L1 163) 0 x1.toInt64)) c s)) (fun E1 I1 L1 => (E1 = 2 ∧ Q (none, .int 1, sM Ln I1 L1 (c + 1) (s + 6))) ∨ (E1 = 0 ∧ Q (none, .int 2, sM Ln I1 L1 (c + 1) (s + 6)))))) : dd_Ev d m_L_odds [.ref 0, .int a1, .int a2, .ref 163] (sM Ln I L c s) Q := by
  obtain ⟨e, rfl⟩ : ∃ e, d = e + 16 := ⟨d - 16, by omega⟩
  show dd_Rn (e + 16) m_L_odds (0, [.ref 0, .int a1, .int a2, .ref 163, .null], [], sM Ln I L c s) Q
  refine dd_Rn.tI 5 (pc := 5) (ls := [.ref 0, .int a1, .int a2, .ref 163, .null]) (st := [.int a2, .int a1, .ref 0, .int 0, .ref 163]) (x := m_X10_odds) (as := [.ref 0, .int a1, .int a2]) (rest := [.int 0, .ref 163]) rfl rfl rfl rfl rfl h ?_ ?_
  · intro x1 I1 L1 h
    show dd_Rn (e + 16) m_L_odds (8, [.ref 0, .int a1, .int a2, .ref 163, .null], [.int x1, .int 0, .ref 163], sM Ln I1 L1 c s) _
    exact dd_Rn.retK 4 (pc := 22) (ls := [.ref 0, .int a1, .int a2, .ref 163, .null]) (st := [.int 0]) (M := sM Ln I1 (dd_u L1 163 (vp_updL (L1 163) 0 x1.toInt64)) c s) (o := (none, .int 0, sM Ln I1 (dd_u L1 163 (vp_updL (L1 163) 0 x1.toInt64)) c s)) rfl rfl h (by omega)
  · intro E1 I1 L1 h
    rcases h with ⟨rfl, h⟩ | ⟨rfl, h⟩
    · refine dd_Ah.at (h := 15) (k := 4) rfl rfl ?_
      show dd_Rn (e + 16) m_L_odds (15, [.ref 0, .int a1, .int a2, .ref 163, .null], [], sM Ln I1 L1 (c + 1) (s + 6)) _
      exact dd_Rn.retK 1 (pc := 16) (ls := [.ref 0, .int a1, .int a2, .ref 163, .null]) (st := [.int 1]) (M := sM Ln I1 L1 (c + 1) (s + 6)) (o := (none, .int 1, sM Ln I1 L1 (c + 1) (s + 6))) rfl rfl h (by omega)
    · refine dd_Ah.at (h := 19) (k := 4) rfl rfl ?_
      show dd_Rn (e + 16) m_L_odds (19, [.ref 0, .int a1, .int a2, .ref 163, .null], [], sM Ln I1 L1 (c + 1) (s + 6)) _
      exact dd_Rn.retK 1 (pc := 20) (ls := [.ref 0, .int a1, .int a2, .ref 163, .null]) (st := [.int 2]) (M := sM Ln I1 L1 (c + 1) (s + 6)) (o := (none, .int 2, sM Ln I1 L1 (c + 1) (s + 6))) rfl rfl h (by omega)

theorem w_L_ahead_0 {Ln d c s : Nat} {I : Nat → Nat → Int32} {L : Nat → Nat → Int64} {Q : dd_O → Prop} {a1 a2 : Int32} (hd : 28 ≤ d) (h : dd_Ev (d - 1) m_X10_ahead [.ref 0, .int a1, .int a2] (sM Ln I L c s) (dd_TI Ln c s (fun x1 I1 L1 => Q (none, .int 0, sM Ln I1 (dd_u L1 163 (vp_updL (L1 163) 0 x1.toInt64)) c s)) (fun E1 I1 L1 => (E1 = 2 ∧ Q (none, .int 1, sM Ln I1 L1 (c + 1) (s + 6))) ∨ (E1 = 0 ∧ Q (none, .int 2, sM Ln I1 L1 (c + 1) (s + 6)))))) : dd_Ev d m_L_ahead [.ref 0, .int a1, .int a2, .ref 163] (sM Ln I L c s) Q := by
  obtain ⟨e, rfl⟩ : ∃ e, d = e + 16 := ⟨d - 16, by omega⟩
  show dd_Rn (e + 16) m_L_ahead (0, [.ref 0, .int a1, .int a2, .ref 163, .null], [], sM Ln I L c s) Q
  refine dd_Rn.tI 5 (pc := 5) (ls := [.ref 0, .int a1, .int a2, .ref 163, .null]) (st := [.int a2, .int a1, .ref 0, .int 0, .ref 163]) (x := m_X10_ahead) (as := [.ref 0, .int a1, .int a2]) (rest := [.int 0, .ref 163]) rfl rfl rfl rfl rfl h ?_ ?_
  · intro x1 I1 L1 h
    show dd_Rn (e + 16) m_L_ahead (8, [.ref 0, .int a1, .int a2, .ref 163, .null], [.int x1, .int 0, .ref 163], sM Ln I1 L1 c s) _
    exact dd_Rn.retK 4 (pc := 22) (ls := [.ref 0, .int a1, .int a2, .ref 163, .null]) (st := [.int 0]) (M := sM Ln I1 (dd_u L1 163 (vp_updL (L1 163) 0 x1.toInt64)) c s) (o := (none, .int 0, sM Ln I1 (dd_u L1 163 (vp_updL (L1 163) 0 x1.toInt64)) c s)) rfl rfl h (by omega)
  · intro E1 I1 L1 h
    rcases h with ⟨rfl, h⟩ | ⟨rfl, h⟩
    · refine dd_Ah.at (h := 15) (k := 4) rfl rfl ?_
      show dd_Rn (e + 16) m_L_ahead (15, [.ref 0, .int a1, .int a2, .ref 163, .null], [], sM Ln I1 L1 (c + 1) (s + 6)) _
      exact dd_Rn.retK 1 (pc := 16) (ls := [.ref 0, .int a1, .int a2, .ref 163, .null]) (st := [.int 1]) (M := sM Ln I1 L1 (c + 1) (s + 6)) (o := (none, .int 1, sM Ln I1 L1 (c + 1) (s + 6))) rfl rfl h (by omega)
    · refine dd_Ah.at (h := 19) (k := 4) rfl rfl ?_
      show dd_Rn (e + 16) m_L_ahead (19, [.ref 0, .int a1, .int a2, .ref 163, .null], [], sM Ln I1 L1 (c + 1) (s + 6)) _
      exact dd_Rn.retK 1 (pc := 20) (ls := [.ref 0, .int a1, .int a2, .ref 163, .null]) (st := [.int 2]) (M := sM Ln I1 L1 (c + 1) (s + 6)) (o := (none, .int 2, sM Ln I1 L1 (c + 1) (s + 6))) rfl rfl h (by omega)

theorem w_L_trial_0 {Ln d c s : Nat} {I : Nat → Nat → Int32} {L : Nat → Nat → Int64} {Q : dd_O → Prop} {a1 a2 : Int32} (hd : 28 ≤ d) (h : dd_Ev (d - 1) m_X10_trial [.ref 0, .int a1, .int a2] (sM Ln I L c s) (dd_TI Ln c s (fun x1 I1 L1 => Q (none, .int 0, sM Ln I1 (dd_u L1 163 (vp_updL (L1 163) 0 x1.toInt64)) c s)) (fun E1 I1 L1 => (E1 = 0 ∧ Q (none, .int 1, sM Ln I1 L1 (c + 1) (s + 6)))))) : dd_Ev d m_L_trial [.ref 0, .int a1, .int a2, .ref 163] (sM Ln I L c s) Q := by
  obtain ⟨e, rfl⟩ : ∃ e, d = e + 16 := ⟨d - 16, by omega⟩
  show dd_Rn (e + 16) m_L_trial (0, [.ref 0, .int a1, .int a2, .ref 163, .null], [], sM Ln I L c s) Q
  refine dd_Rn.tI 5 (pc := 5) (ls := [.ref 0, .int a1, .int a2, .ref 163, .null]) (st := [.int a2, .int a1, .ref 0, .int 0, .ref 163]) (x := m_X10_trial) (as := [.ref 0, .int a1, .int a2]) (rest := [.int 0, .ref 163]) rfl rfl rfl rfl rfl h ?_ ?_
  · intro x1 I1 L1 h
    show dd_Rn (e + 16) m_L_trial (8, [.ref 0, .int a1, .int a2, .ref 163, .null], [.int x1, .int 0, .ref 163], sM Ln I1 L1 c s) _
    exact dd_Rn.retK 4 (pc := 18) (ls := [.ref 0, .int a1, .int a2, .ref 163, .null]) (st := [.int 0]) (M := sM Ln I1 (dd_u L1 163 (vp_updL (L1 163) 0 x1.toInt64)) c s) (o := (none, .int 0, sM Ln I1 (dd_u L1 163 (vp_updL (L1 163) 0 x1.toInt64)) c s)) rfl rfl h (by omega)
  · intro E1 I1 L1 h
    rcases h with ⟨rfl, h⟩
    · refine dd_Ah.at (h := 15) (k := 4) rfl rfl ?_
      show dd_Rn (e + 16) m_L_trial (15, [.ref 0, .int a1, .int a2, .ref 163, .null], [], sM Ln I1 L1 (c + 1) (s + 6)) _
      exact dd_Rn.retK 1 (pc := 16) (ls := [.ref 0, .int a1, .int a2, .ref 163, .null]) (st := [.int 1]) (M := sM Ln I1 L1 (c + 1) (s + 6)) (o := (none, .int 1, sM Ln I1 L1 (c + 1) (s + 6))) rfl rfl h (by omega)

theorem w_L_span_0 {Ln d c s : Nat} {I : Nat → Nat → Int32} {L : Nat → Nat → Int64} {Q : dd_O → Prop} {a1 a2 : Int32} (hd : 28 ≤ d) (h : dd_Ev (d - 1) m_X10_span [.ref 0, .int a1, .int a2] (sM Ln I L c s) (dd_TI Ln c s (fun x1 I1 L1 => Q (none, .int 0, sM Ln I1 (dd_u L1 163 (vp_updL (L1 163) 0 x1.toInt64)) c s)) (fun E1 I1 L1 => (E1 = 0 ∧ Q (none, .int 1, sM Ln I1 L1 (c + 1) (s + 6)))))) : dd_Ev d m_L_span [.ref 0, .int a1, .int a2, .ref 163] (sM Ln I L c s) Q := by
  obtain ⟨e, rfl⟩ : ∃ e, d = e + 16 := ⟨d - 16, by omega⟩
  show dd_Rn (e + 16) m_L_span (0, [.ref 0, .int a1, .int a2, .ref 163, .null], [], sM Ln I L c s) Q
  refine dd_Rn.tI 5 (pc := 5) (ls := [.ref 0, .int a1, .int a2, .ref 163, .null]) (st := [.int a2, .int a1, .ref 0, .int 0, .ref 163]) (x := m_X10_span) (as := [.ref 0, .int a1, .int a2]) (rest := [.int 0, .ref 163]) rfl rfl rfl rfl rfl h ?_ ?_
  · intro x1 I1 L1 h
    show dd_Rn (e + 16) m_L_span (8, [.ref 0, .int a1, .int a2, .ref 163, .null], [.int x1, .int 0, .ref 163], sM Ln I1 L1 c s) _
    exact dd_Rn.retK 4 (pc := 18) (ls := [.ref 0, .int a1, .int a2, .ref 163, .null]) (st := [.int 0]) (M := sM Ln I1 (dd_u L1 163 (vp_updL (L1 163) 0 x1.toInt64)) c s) (o := (none, .int 0, sM Ln I1 (dd_u L1 163 (vp_updL (L1 163) 0 x1.toInt64)) c s)) rfl rfl h (by omega)
  · intro E1 I1 L1 h
    rcases h with ⟨rfl, h⟩
    · refine dd_Ah.at (h := 15) (k := 4) rfl rfl ?_
      show dd_Rn (e + 16) m_L_span (15, [.ref 0, .int a1, .int a2, .ref 163, .null], [], sM Ln I1 L1 (c + 1) (s + 6)) _
      exact dd_Rn.retK 1 (pc := 16) (ls := [.ref 0, .int a1, .int a2, .ref 163, .null]) (st := [.int 1]) (M := sM Ln I1 L1 (c + 1) (s + 6)) (o := (none, .int 1, sM Ln I1 L1 (c + 1) (s + 6))) rfl rfl h (by omega)

theorem w_L_led_0 {Ln d c s : Nat} {I : Nat → Nat → Int32} {L : Nat → Nat → Int64} {Q : dd_O → Prop} {a1 a2 : Int32} (hd : 28 ≤ d) (h : dd_Ev (d - 1) m_X10_led [.ref 0, .int a1, .int a2] (sM Ln I L c s) (dd_TI Ln c s (fun x1 I1 L1 => Q (none, .int 0, sM Ln I1 (dd_u L1 163 (vp_updL (L1 163) 0 x1.toInt64)) c s)) (fun E1 I1 L1 => (E1 = 2 ∧ Q (none, .int 1, sM Ln I1 L1 (c + 1) (s + 6)))))) : dd_Ev d m_L_led [.ref 0, .int a1, .int a2, .ref 163] (sM Ln I L c s) Q := by
  obtain ⟨e, rfl⟩ : ∃ e, d = e + 16 := ⟨d - 16, by omega⟩
  show dd_Rn (e + 16) m_L_led (0, [.ref 0, .int a1, .int a2, .ref 163, .null], [], sM Ln I L c s) Q
  refine dd_Rn.tI 5 (pc := 5) (ls := [.ref 0, .int a1, .int a2, .ref 163, .null]) (st := [.int a2, .int a1, .ref 0, .int 0, .ref 163]) (x := m_X10_led) (as := [.ref 0, .int a1, .int a2]) (rest := [.int 0, .ref 163]) rfl rfl rfl rfl rfl h ?_ ?_
  · intro x1 I1 L1 h
    show dd_Rn (e + 16) m_L_led (8, [.ref 0, .int a1, .int a2, .ref 163, .null], [.int x1, .int 0, .ref 163], sM Ln I1 L1 c s) _
    exact dd_Rn.retK 4 (pc := 18) (ls := [.ref 0, .int a1, .int a2, .ref 163, .null]) (st := [.int 0]) (M := sM Ln I1 (dd_u L1 163 (vp_updL (L1 163) 0 x1.toInt64)) c s) (o := (none, .int 0, sM Ln I1 (dd_u L1 163 (vp_updL (L1 163) 0 x1.toInt64)) c s)) rfl rfl h (by omega)
  · intro E1 I1 L1 h
    rcases h with ⟨rfl, h⟩
    · refine dd_Ah.at (h := 15) (k := 4) rfl rfl ?_
      show dd_Rn (e + 16) m_L_led (15, [.ref 0, .int a1, .int a2, .ref 163, .null], [], sM Ln I1 L1 (c + 1) (s + 6)) _
      exact dd_Rn.retK 1 (pc := 16) (ls := [.ref 0, .int a1, .int a2, .ref 163, .null]) (st := [.int 1]) (M := sM Ln I1 L1 (c + 1) (s + 6)) (o := (none, .int 1, sM Ln I1 L1 (c + 1) (s + 6))) rfl rfl h (by omega)

theorem w_L_log_0 {Ln d c s : Nat} {I : Nat → Nat → Int32} {L : Nat → Nat → Int64} {Q : dd_O → Prop} {a1 a2 : Int32} (hd : 28 ≤ d) (h : dd_Ev (d - 1) m_X10_log [.ref 0, .int a1, .int a2] (sM Ln I L c s) (dd_TI Ln c s (fun x1 I1 L1 => Q (none, .int 0, sM Ln I1 (dd_u L1 163 (vp_updL (L1 163) 0 x1.toInt64)) c s)) (fun E1 I1 L1 => (E1 = 3 ∧ Q (none, .int 1, sM Ln I1 L1 (c + 1) (s + 6)))))) : dd_Ev d m_L_log [.ref 0, .int a1, .int a2, .ref 163] (sM Ln I L c s) Q := by
  obtain ⟨e, rfl⟩ : ∃ e, d = e + 16 := ⟨d - 16, by omega⟩
  show dd_Rn (e + 16) m_L_log (0, [.ref 0, .int a1, .int a2, .ref 163, .null], [], sM Ln I L c s) Q
  refine dd_Rn.tI 5 (pc := 5) (ls := [.ref 0, .int a1, .int a2, .ref 163, .null]) (st := [.int a2, .int a1, .ref 0, .int 0, .ref 163]) (x := m_X10_log) (as := [.ref 0, .int a1, .int a2]) (rest := [.int 0, .ref 163]) rfl rfl rfl rfl rfl h ?_ ?_
  · intro x1 I1 L1 h
    show dd_Rn (e + 16) m_L_log (8, [.ref 0, .int a1, .int a2, .ref 163, .null], [.int x1, .int 0, .ref 163], sM Ln I1 L1 c s) _
    exact dd_Rn.retK 4 (pc := 18) (ls := [.ref 0, .int a1, .int a2, .ref 163, .null]) (st := [.int 0]) (M := sM Ln I1 (dd_u L1 163 (vp_updL (L1 163) 0 x1.toInt64)) c s) (o := (none, .int 0, sM Ln I1 (dd_u L1 163 (vp_updL (L1 163) 0 x1.toInt64)) c s)) rfl rfl h (by omega)
  · intro E1 I1 L1 h
    rcases h with ⟨rfl, h⟩
    · refine dd_Ah.at (h := 15) (k := 4) rfl rfl ?_
      show dd_Rn (e + 16) m_L_log (15, [.ref 0, .int a1, .int a2, .ref 163, .null], [], sM Ln I1 L1 (c + 1) (s + 6)) _
      exact dd_Rn.retK 1 (pc := 16) (ls := [.ref 0, .int a1, .int a2, .ref 163, .null]) (st := [.int 1]) (M := sM Ln I1 L1 (c + 1) (s + 6)) (o := (none, .int 1, sM Ln I1 L1 (c + 1) (s + 6))) rfl rfl h (by omega)
