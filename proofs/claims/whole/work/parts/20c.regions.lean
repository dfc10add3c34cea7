/-! Region lemmas, written by program (gen/regions_all.py) -/
theorem w_X11_remembers_0 {Ln d c s : Nat} {I : Nat → Nat → Int32} {L : Nat → Nat → Int64} {Q : dd_O → Prop} (hd : 28 ≤ d) (h : ((I 148 7 = 12 → dd_Rn d m_X11_remembers (11, [.ref 148, .int 0], [], sM Ln I L c s) Q) ∧ (¬ (I 148 7 = 12) → dd_Rn d m_X11_remembers (55, [.ref 148, .int 0], [], sM Ln (dd_u I 148 (upd (I 148) 7 ((I 148 7) + 1))) L c s) Q))) : dd_Ev d m_X11_remembers [.ref 148] (sM Ln I L c s) Q := by
  obtain ⟨e, rfl⟩ : ∃ e, d = e + 16 := ⟨d - 16, by omega⟩
  show dd_Rn (e + 16) m_X11_remembers (0, [.ref 148, .null], [], sM Ln I L c s) Q
  refine dd_Rn.ite 3 (c := I 148 7 = 12) (A := (9, [.ref 148, .null], [], sM Ln I L c s)) (B := (43, [.ref 148, .null], [], sM Ln I L c s)) rfl (fun hc => ?_) (fun hc => ?_) (by omega)
  · have h := h.1 hc
    exact dd_Rn.go 2 (cf' := (11, [.ref 148, .int 0], [], sM Ln I L c s)) rfl h (by omega)
  · have h := h.2 hc
    exact dd_Rn.go 8 (cf' := (55, [.ref 148, .int 0], [], sM Ln (dd_u I 148 (upd (I 148) 7 ((I 148 7) + 1))) L c s)) rfl h (by omega)

theorem w_X11_remembers_11 {Ln d c s : Nat} {I : Nat → Nat → Int32} {L : Nat → Nat → Int64} {Q : dd_O → Prop} {a1 : Int32} (hd : 28 ≤ d) (h : (((5742 : Int32) ≤ a1 → dd_Rn d m_X11_remembers (55, [.ref 148, .int 0], [], sM Ln I L c s) Q) ∧ (¬ ((5742 : Int32) ≤ a1) → ((0 ≤ a1 + 522 ∧ tn (a1 + 522) < 6264) ∧ ((0 ≤ a1 ∧ tn a1 < 6264) ∧ dd_Rn d m_X11_remembers (11, [.ref 148, .int (a1 + 1)], [], sM Ln (dd_u I 153 (upd (I 153) (tn a1) (I 153 (tn (a1 + 522))))) L c s) Q))))) : dd_Rn d m_X11_remembers (11, [.ref 148, .int a1], [], sM Ln I L c s) Q := by
  obtain ⟨e, rfl⟩ : ∃ e, d = e + 16 := ⟨d - 16, by omega⟩
  refine dd_Rn.ite 2 (c := (5742 : Int32) ≤ a1) (A := (40, [.ref 148, .int a1], [], sM Ln I L c s)) (B := (18, [.ref 148, .int a1], [], sM Ln I L c s)) rfl (fun hc => ?_) (fun hc => ?_) (by omega)
  · have h := h.1 hc
    exact dd_Rn.go 3 (cf' := (55, [.ref 148, .int 0], [], sM Ln I L c s)) rfl h (by omega)
  · have h := h.2 hc
    obtain ⟨hc, h⟩ := h
    refine dd_Rn.chk 8 (c := 0 ≤ a1 + 522 ∧ tn (a1 + 522) < 6264) (A := (33, [.ref 148, .int a1], [.int (I 153 (tn (a1 + 522))), .int a1, .ref 153], sM Ln I L c s)) rfl hc ?_ (by omega)
    obtain ⟨hc, h⟩ := h
    refine dd_Rn.chk 0 (c := 0 ≤ a1 ∧ tn a1 < 6264) (A := (34, [.ref 148, .int a1], [], sM Ln (dd_u I 153 (upd (I 153) (tn a1) (I 153 (tn (a1 + 522))))) L c s)) rfl hc ?_ (by omega)
    exact dd_Rn.go 2 (cf' := (11, [.ref 148, .int (a1 + 1)], [], sM Ln (dd_u I 153 (upd (I 153) (tn a1) (I 153 (tn (a1 + 522))))) L c s)) rfl h (by omega)

theorem w_X11_remembers_55 {Ln d c s : Nat} {I : Nat → Nat → Int32} {L : Nat → Nat → Int64} {Q : dd_O → Prop} {a1 : Int32} (hd : 28 ≤ d) (h : (((522 : Int32) ≤ a1 → Q (none, .null, sM Ln I L c s)) ∧ (¬ ((522 : Int32) ≤ a1) → ((0 ≤ a1 ∧ tn a1 < 2220) ∧ ((0 ≤ ((522 : Int32) * ((I 148 7) - 1)) + a1 ∧ tn (((522 : Int32) * ((I 148 7) - 1)) + a1) < 6264) ∧ dd_Rn d m_X11_remembers (55, [.ref 148, .int (a1 + 1)], [], sM Ln (dd_u I 153 (upd (I 153) (tn (((522 : Int32) * ((I 148 7) - 1)) + a1)) (I 149 (tn a1)))) L c s) Q))))) : dd_Rn d m_X11_remembers (55, [.ref 148, .int a1], [], sM Ln I L c s) Q := by
  obtain ⟨e, rfl⟩ : ∃ e, d = e + 16 := ⟨d - 16, by omega⟩
  refine dd_Rn.ite 2 (c := (522 : Int32) ≤ a1) (A := (91, [.ref 148, .int a1], [], sM Ln I L c s)) (B := (62, [.ref 148, .int a1], [], sM Ln I L c s)) rfl (fun hc => ?_) (fun hc => ?_) (by omega)
  · have h := h.1 hc
    exact dd_Rn.retK 0 (pc := 91) (ls := [.ref 148, .int a1]) (st := []) (M := sM Ln I L c s) (o := (none, .null, sM Ln I L c s)) rfl rfl h (by omega)
  · have h := h.2 hc
    obtain ⟨hc, h⟩ := h
    refine dd_Rn.chk 13 (c := 0 ≤ a1 ∧ tn a1 < 2220) (A := (84, [.ref 148, .int a1], [.int (I 149 (tn a1)), .int (((522 : Int32) * ((I 148 7) - 1)) + a1), .ref 153], sM Ln I L c s)) rfl hc ?_ (by omega)
    obtain ⟨hc, h⟩ := h
    refine dd_Rn.chk 0 (c := 0 ≤ ((522 : Int32) * ((I 148 7) - 1)) + a1 ∧ tn (((522 : Int32) * ((I 148 7) - 1)) + a1) < 6264) (A := (85, [.ref 148, .int a1], [], sM Ln (dd_u I 153 (upd (I 153) (tn (((522 : Int32) * ((I 148 7) - 1)) + a1)) (I 149 (tn a1)))) L c s)) rfl hc ?_ (by omega)
    exact dd_Rn.go 2 (cf' := (55, [.ref 148, .int (a1 + 1)], [], sM Ln (dd_u I 153 (upd (I 153) (tn (((522 : Int32) * ((I 148 7) - 1)) + a1)) (I 149 (tn a1)))) L c s)) rfl h (by omega)

theorem w_X11_drawn_0 {Ln d c s : Nat} {I : Nat → Nat → Int32} {L : Nat → Nat → Int64} {Q : dd_O → Prop} {a1 : Int32} (hd : 28 ≤ d) (h : (¬ (a1 = 0) ∧ Q (none, .int ((((((1103515245 : Int32) * (I 149 10)) + 12345) >>> (16 &&& 31) : Int32) &&& 32767) - (((((1103515245 : Int32) * (I 149 10)) + 12345) >>> (16 &&& 31) : Int32) &&& 32767) / a1 * a1), sM Ln (dd_u I 149 (upd (I 149) 10 (((1103515245 : Int32) * (I 149 10)) + 12345))) L c s))) : dd_Ev d m_X11_drawn [.ref 148, .int a1] (sM Ln I L c s) Q := by
  obtain ⟨e, rfl⟩ : ∃ e, d = e + 16 := ⟨d - 16, by omega⟩
  show dd_Rn (e + 16) m_X11_drawn (0, [.ref 148, .int a1], [], sM Ln I L c s) Q
  obtain ⟨hc, h⟩ := h
  refine dd_Rn.chkN 21 (c := a1 = 0) (A := (37, [.ref 148, .int a1], [.int ((((((1103515245 : Int32) * (I 149 10)) + 12345) >>> (16 &&& 31) : Int32) &&& 32767) - (((((1103515245 : Int32) * (I 149 10)) + 12345) >>> (16 &&& 31) : Int32) &&& 32767) / a1 * a1)], sM Ln (dd_u I 149 (upd (I 149) 10 (((1103515245 : Int32) * (I 149 10)) + 12345))) L c s)) rfl hc ?_ (by omega)
  exact dd_Rn.retK 0 (pc := 37) (ls := [.ref 148, .int a1]) (st := [.int ((((((1103515245 : Int32) * (I 149 10)) + 12345) >>> (16 &&& 31) : Int32) &&& 32767) - (((((1103515245 : Int32) * (I 149 10)) + 12345) >>> (16 &&& 31) : Int32) &&& 32767) / a1 * a1)]) (M := sM Ln (dd_u I 149 (upd (I 149) 10 (((1103515245 : Int32) * (I 149 10)) + 12345))) L c s) (o := (none, .int ((((((1103515245 : Int32) * (I 149 10)) + 12345) >>> (16 &&& 31) : Int32) &&& 32767) - (((((1103515245 : Int32) * (I 149 10)) + 12345) >>> (16 &&& 31) : Int32) &&& 32767) / a1 * a1), sM Ln (dd_u I 149 (upd (I 149) 10 (((1103515245 : Int32) * (I 149 10)) + 12345))) L c s)) rfl rfl h (by omega)

theorem w_X11_gapOf_0 {Ln d c s : Nat} {I : Nat → Nat → Int32} {L : Nat → Nat → Int64} {Q : dd_O → Prop} {a0 a1 : Int32} (hd : 28 ≤ d) (h : Q (none, .int ((if (0 : Int32) ≤ (a0 - a0 / 8 * 8) - (a1 - a1 / 8 * 8) then (a0 - a0 / 8 * 8) - (a1 - a1 / 8 * 8) else (0 : Int32) - ((a0 - a0 / 8 * 8) - (a1 - a1 / 8 * 8))) + (if (0 : Int32) ≤ (a0 / 8) - (a1 / 8) then (a0 / 8) - (a1 / 8) else (0 : Int32) - ((a0 / 8) - (a1 / 8)))), sM Ln I L c s)) : dd_Ev d m_X11_gapOf [.int a0, .int a1] (sM Ln I L c s) Q := by
  obtain ⟨e, rfl⟩ : ∃ e, d = e + 16 := ⟨d - 16, by omega⟩
  show dd_Rn (e + 16) m_X11_gapOf (0, [.int a0, .int a1], [], sM Ln I L c s) Q
  exact dd_Rn.retK 17 (pc := 25) (ls := [.int a0, .int a1]) (st := [.int ((if (0 : Int32) ≤ (a0 - a0 / 8 * 8) - (a1 - a1 / 8 * 8) then (a0 - a0 / 8 * 8) - (a1 - a1 / 8 * 8) else (0 : Int32) - ((a0 - a0 / 8 * 8) - (a1 - a1 / 8 * 8))) + (if (0 : Int32) ≤ (a0 / 8) - (a1 / 8) then (a0 / 8) - (a1 / 8) else (0 : Int32) - ((a0 / 8) - (a1 / 8))))]) (M := sM Ln I L c s) (o := (none, .int ((if (0 : Int32) ≤ (a0 - a0 / 8 * 8) - (a1 - a1 / 8 * 8) then (a0 - a0 / 8 * 8) - (a1 - a1 / 8 * 8) else (0 : Int32) - ((a0 - a0 / 8 * 8) - (a1 - a1 / 8 * 8))) + (if (0 : Int32) ≤ (a0 / 8) - (a1 / 8) then (a0 / 8) - (a1 / 8) else (0 : Int32) - ((a0 / 8) - (a1 / 8)))), sM Ln I L c s)) rfl rfl h (by omega)

theorem w_X11_nearOf_0 {Ln d c s : Nat} {I : Nat → Nat → Int32} {L : Nat → Nat → Int64} {Q : dd_O → Prop} {a1 : Int32} (hd : 28 ≤ d) (h : dd_Ev (d - 1) m_X11_gapOf [.int a1, .int (I 149 4)] (sM Ln I L c s) (dd_RI Ln c s (fun x1 I1 L1 => Q (none, .int x1, sM Ln I1 L1 c s)))) : dd_Ev d m_X11_nearOf [.ref 148, .int a1] (sM Ln I L c s) Q := by
  obtain ⟨e, rfl⟩ : ∃ e, d = e + 16 := ⟨d - 16, by omega⟩
  show dd_Rn (e + 16) m_X11_nearOf (0, [.ref 148, .int a1], [], sM Ln I L c s) Q
  refine dd_Rn.cI 5 (pc := 7) (ls := [.ref 148, .int a1]) (st := [.int (I 149 4), .int a1]) (x := m_X11_gapOf) (as := [.int a1, .int (I 149 4)]) (rest := []) rfl rfl rfl rfl h ?_
  intro x1 I1 L1 h
  show dd_Rn (e + 16) m_X11_nearOf (10, [.ref 148, .int a1], [.int x1], sM Ln I1 L1 c s) _
  exact dd_Rn.retK 0 (pc := 10) (ls := [.ref 148, .int a1]) (st := [.int x1]) (M := sM Ln I1 L1 c s) (o := (none, .int x1, sM Ln I1 L1 c s)) rfl rfl h (by omega)

theorem w_X11_isLostIn_0 {Ln d c s : Nat} {I : Nat → Nat → Int32} {L : Nat → Nat → Int64} {Q : dd_O → Prop} {a1 : Int32} (hd : 28 ≤ d) (h : dd_Rn d m_X11_isLostIn (4, [.ref 148, .int a1, .int 0, .int 0], [], sM Ln I L c s) Q) : dd_Ev d m_X11_isLostIn [.ref 148, .int a1] (sM Ln I L c s) Q := by
  obtain ⟨e, rfl⟩ : ∃ e, d = e + 16 := ⟨d - 16, by omega⟩
  show dd_Rn (e + 16) m_X11_isLostIn (0, [.ref 148, .int a1, .null, .null], [], sM Ln I L c s) Q
  exact dd_Rn.go 4 (cf' := (4, [.ref 148, .int a1, .int 0, .int 0], [], sM Ln I L c s)) rfl h (by omega)

theorem w_X11_isLostIn_4 {Ln d c s : Nat} {I : Nat → Nat → Int32} {L : Nat → Nat → Int64} {Q : dd_O → Prop} {a1 a2 a3 : Int32} (hd : 28 ≤ d) (h : ((I 149 1 ≤ a3 → ((a2 = 0 ∨ a2 = 1) ∧ Q (none, .int a2, sM Ln I L c s))) ∧ (¬ (I 149 1 ≤ a3) → ((a2 = 0 → ((0 ≤ ((187 : Int32) + ((5 : Int32) * a3)) + 3 ∧ tn (((187 : Int32) + ((5 : Int32) * a3)) + 3) < 2220) ∧ ((I 149 (tn (((187 : Int32) + ((5 : Int32) * a3)) + 3)) = 1 → dd_Rn d m_X11_isLostIn (4, [.ref 148, .int a1, .int 0, .int (a3 + 1)], [], sM Ln I L c s) Q) ∧ (¬ (I 149 (tn (((187 : Int32) + ((5 : Int32) * a3)) + 3)) = 1) → ((0 ≤ ((187 : Int32) + ((5 : Int32) * a3)) + 0 ∧ tn (((187 : Int32) + ((5 : Int32) * a3)) + 0) < 2220) ∧ ((I 149 (tn (((187 : Int32) + ((5 : Int32) * a3)) + 0)) = a1 → dd_Rn d m_X11_isLostIn (4, [.ref 148, .int a1, .int 1, .int (a3 + 1)], [], sM Ln I L c s) Q) ∧ (¬ (I 149 (tn (((187 : Int32) + ((5 : Int32) * a3)) + 0)) = a1) → dd_Rn d m_X11_isLostIn (4, [.ref 148, .int a1, .int 0, .int (a3 + 1)], [], sM Ln I L c s) Q))))))) ∧ (¬ (a2 = 0) → dd_Rn d m_X11_isLostIn (4, [.ref 148, .int a1, .int 1, .int (a3 + 1)], [], sM Ln I L c s) Q))))) : dd_Rn d m_X11_isLostIn (4, [.ref 148, .int a1, .int a2, .int a3], [], sM Ln I L c s) Q := by
  obtain ⟨e, rfl⟩ : ∃ e, d = e + 16 := ⟨d - 16, by omega⟩
  refine dd_Rn.sub 2 (pc := 6) (ls := [.ref 148, .int a1, .int a2, .int a3]) (st := [.ref 148, .int a3]) (M := sM Ln I L c s) (x := m_X11_boys) (as := [.ref 148]) (rest := [.int a3]) rfl rfl rfl rfl ?_
  show dd_Rn (e + 15) m_X11_boys (0, [.ref 148], [], sM Ln I L c s) _
  refine dd_Rn.retK 4 (pc := 6) (ls := [.ref 148]) (st := [.int (I 149 1)]) (M := sM Ln I L c s) (o := (none, .int (I 149 1), sM Ln I L c s)) rfl rfl (dd_Af.ret rfl ?_) (by omega)
  show dd_Rn (e + 16) m_X11_isLostIn (9, [.ref 148, .int a1, .int a2, .int a3], [.int (I 149 1), .int a3], sM Ln I L c s) _
  refine dd_Rn.ite 0 (c := I 149 1 ≤ a3) (A := (46, [.ref 148, .int a1, .int a2, .int a3], [], sM Ln I L c s)) (B := (12, [.ref 148, .int a1, .int a2, .int a3], [], sM Ln I L c s)) rfl (fun hc => ?_) (fun hc => ?_) (by omega)
  · have h := h.1 hc
    obtain ⟨hc, h⟩ := h
    exact dd_Rn.retB 1 (cf' := (47, [.ref 148, .int a1, .int a2, .int a3], [.int a2], sM Ln I L c s)) (v := a2) rfl rfl hc h (by omega)
  · have h := h.2 hc
    refine dd_Rn.ite 1 (c := a2 = 0) (A := (16, [.ref 148, .int a1, .int a2, .int a3], [], sM Ln I L c s)) (B := (34, [.ref 148, .int a1, .int a2, .int a3], [], sM Ln I L c s)) rfl (fun hc => ?_) (fun hc => ?_) (by omega)
    · have h := h.1 hc
      refine dd_Rn.sub 2 (pc := 18) (ls := [.ref 148, .int a1, .int a2, .int a3]) (st := [.int a3, .ref 148]) (M := sM Ln I L c s) (x := m_X11_isIn) (as := [.ref 148, .int a3]) (rest := []) rfl rfl rfl rfl ?_
      show dd_Rn (e + 15) m_X11_isIn (0, [.ref 148, .int a3], [], sM Ln I L c s) _
      refine dd_Rn.sub 3 (pc := 3) (ls := [.ref 148, .int a3]) (st := [.int 3, .int a3, .ref 148]) (M := sM Ln I L c s) (x := m_X11_of) (as := [.ref 148, .int a3, .int 3]) (rest := []) rfl rfl rfl rfl ?_
      show dd_Rn (e + 14) m_X11_of (0, [.ref 148, .int a3, .int 3], [], sM Ln I L c s) _
      refine dd_Rn.sub 4 (pc := 6) (ls := [.ref 148, .int a3, .int 3]) (st := [.int 3, .int a3, .ref 149]) (M := sM Ln I L c s) (x := m_X11_at) (as := [.int a3, .int 3]) (rest := [.ref 149]) rfl rfl rfl rfl ?_
      show dd_Rn (e + 13) m_X11_at (0, [.int a3, .int 3], [], sM Ln I L c s) _
      refine dd_Rn.retK 7 (pc := 9) (ls := [.int a3, .int 3]) (st := [.int (((187 : Int32) + ((5 : Int32) * a3)) + 3)]) (M := sM Ln I L c s) (o := (none, .int (((187 : Int32) + ((5 : Int32) * a3)) + 3), sM Ln I L c s)) rfl rfl (dd_Af.ret rfl ?_) (by omega)
      show dd_Rn (e + 14) m_X11_of (9, [.ref 148, .int a3, .int 3], [.int (((187 : Int32) + ((5 : Int32) * a3)) + 3), .ref 149], sM Ln I L c s) _
      obtain ⟨hc, h⟩ := h
      refine dd_Rn.chk 0 (c := 0 ≤ ((187 : Int32) + ((5 : Int32) * a3)) + 3 ∧ tn (((187 : Int32) + ((5 : Int32) * a3)) + 3) < 2220) (A := (10, [.ref 148, .int a3, .int 3], [.int (I 149 (tn (((187 : Int32) + ((5 : Int32) * a3)) + 3)))], sM Ln I L c s)) rfl hc ?_ (by omega)
      refine dd_Rn.retK 0 (pc := 10) (ls := [.ref 148, .int a3, .int 3]) (st := [.int (I 149 (tn (((187 : Int32) + ((5 : Int32) * a3)) + 3)))]) (M := sM Ln I L c s) (o := (none, .int (I 149 (tn (((187 : Int32) + ((5 : Int32) * a3)) + 3))), sM Ln I L c s)) rfl rfl (dd_Af.ret rfl ?_) (by omega)
      show dd_Rn (e + 15) m_X11_isIn (6, [.ref 148, .int a3], [.int (I 149 (tn (((187 : Int32) + ((5 : Int32) * a3)) + 3)))], sM Ln I L c s) _
      refine dd_Rn.ite 1 (c := I 149 (tn (((187 : Int32) + ((5 : Int32) * a3)) + 3)) = 1) (A := (10, [.ref 148, .int a3], [], sM Ln I L c s)) (B := (14, [.ref 148, .int a3], [], sM Ln I L c s)) rfl (fun hc => ?_) (fun hc => ?_) (by omega)
      · have h := h.1 hc
        refine dd_Rn.retK 2 (pc := 15) (ls := [.ref 148, .int a3]) (st := [.int 1]) (M := sM Ln I L c s) (o := (none, .int 1, sM Ln I L c s)) rfl rfl (dd_Af.ret rfl ?_) (by omega)
        show dd_Rn (e + 16) m_X11_isLostIn (21, [.ref 148, .int a1, .int a2, .int a3], [.int 1], sM Ln I L c s) _
        exact dd_Rn.go 5 (cf' := (4, [.ref 148, .int a1, .int 0, .int (a3 + 1)], [], sM Ln I L c s)) rfl h (by omega)
      · have h := h.2 hc
        refine dd_Rn.retK 1 (pc := 15) (ls := [.ref 148, .int a3]) (st := [.int 0]) (M := sM Ln I L c s) (o := (none, .int 0, sM Ln I L c s)) rfl rfl (dd_Af.ret rfl ?_) (by omega)
        show dd_Rn (e + 16) m_X11_isLostIn (21, [.ref 148, .int a1, .int a2, .int a3], [.int 0], sM Ln I L c s) _
        refine dd_Rn.sub 4 (pc := 27) (ls := [.ref 148, .int a1, .int a2, .int a3]) (st := [.int 0, .int a3, .ref 148]) (M := sM Ln I L c s) (x := m_X11_of) (as := [.ref 148, .int a3, .int 0]) (rest := []) rfl rfl rfl rfl ?_
        show dd_Rn (e + 15) m_X11_of (0, [.ref 148, .int a3, .int 0], [], sM Ln I L c s) _
        refine dd_Rn.sub 4 (pc := 6) (ls := [.ref 148, .int a3, .int 0]) (st := [.int 0, .int a3, .ref 149]) (M := sM Ln I L c s) (x := m_X11_at) (as := [.int a3, .int 0]) (rest := [.ref 149]) rfl rfl rfl rfl ?_
        show dd_Rn (e + 14) m_X11_at (0, [.int a3, .int 0], [], sM Ln I L c s) _
        refine dd_Rn.retK 7 (pc := 9) (ls := [.int a3, .int 0]) (st := [.int (((187 : Int32) + ((5 : Int32) * a3)) + 0)]) (M := sM Ln I L c s) (o := (none, .int (((187 : Int32) + ((5 : Int32) * a3)) + 0), sM Ln I L c s)) rfl rfl (dd_Af.ret rfl ?_) (by omega)
        show dd_Rn (e + 15) m_X11_of (9, [.ref 148, .int a3, .int 0], [.int (((187 : Int32) + ((5 : Int32) * a3)) + 0), .ref 149], sM Ln I L c s) _
        obtain ⟨hc, h⟩ := h
        refine dd_Rn.chk 0 (c := 0 ≤ ((187 : Int32) + ((5 : Int32) * a3)) + 0 ∧ tn (((187 : Int32) + ((5 : Int32) * a3)) + 0) < 2220) (A := (10, [.ref 148, .int a3, .int 0], [.int (I 149 (tn (((187 : Int32) + ((5 : Int32) * a3)) + 0)))], sM Ln I L c s)) rfl hc ?_ (by omega)
        refine dd_Rn.retK 0 (pc := 10) (ls := [.ref 148, .int a3, .int 0]) (st := [.int (I 149 (tn (((187 : Int32) + ((5 : Int32) * a3)) + 0)))]) (M := sM Ln I L c s) (o := (none, .int (I 149 (tn (((187 : Int32) + ((5 : Int32) * a3)) + 0))), sM Ln I L c s)) rfl rfl (dd_Af.ret rfl ?_) (by omega)
        show dd_Rn (e + 16) m_X11_isLostIn (30, [.ref 148, .int a1, .int a2, .int a3], [.int (I 149 (tn (((187 : Int32) + ((5 : Int32) * a3)) + 0)))], sM Ln I L c s) _
        refine dd_Rn.ite 1 (c := I 149 (tn (((187 : Int32) + ((5 : Int32) * a3)) + 0)) = a1) (A := (34, [.ref 148, .int a1, .int a2, .int a3], [], sM Ln I L c s)) (B := (38, [.ref 148, .int a1, .int a2, .int a3], [], sM Ln I L c s)) rfl (fun hc => ?_) (fun hc => ?_) (by omega)
        · have h := h.1 hc
          exact dd_Rn.go 5 (cf' := (4, [.ref 148, .int a1, .int 1, .int (a3 + 1)], [], sM Ln I L c s)) rfl h (by omega)
        · have h := h.2 hc
          exact dd_Rn.go 4 (cf' := (4, [.ref 148, .int a1, .int 0, .int (a3 + 1)], [], sM Ln I L c s)) rfl h (by omega)
    · have h := h.2 hc
      exact dd_Rn.go 5 (cf' := (4, [.ref 148, .int a1, .int 1, .int (a3 + 1)], [], sM Ln I L c s)) rfl h (by omega)

theorem w_X11_comesIn_0 {Ln d c s : Nat} {I : Nat → Nat → Int32} {L : Nat → Nat → Int64} {Q : dd_O → Prop} {a1 : Int32} (hd : 28 ≤ d) (h : ((0 ≤ ((187 : Int32) + ((5 : Int32) * a1)) + 0 ∧ tn (((187 : Int32) + ((5 : Int32) * a1)) + 0) < 2220) ∧ ((0 ≤ ((187 : Int32) + ((5 : Int32) * a1)) + 3 ∧ tn (((187 : Int32) + ((5 : Int32) * a1)) + 3) < 2220) ∧ Q (none, .null, sM Ln (dd_u (dd_u I 149 (upd (I 149) (tn (((187 : Int32) + ((5 : Int32) * a1)) + 0)) (I 149 4))) 149 (upd (upd (I 149) (tn (((187 : Int32) + ((5 : Int32) * a1)) + 0)) (I 149 4)) (tn (((187 : Int32) + ((5 : Int32) * a1)) + 3)) 1)) L c s)))) : dd_Ev d m_X11_comesIn [.ref 148, .int a1] (sM Ln I L c s) Q := by
  obtain ⟨e, rfl⟩ : ∃ e, d = e + 16 := ⟨d - 16, by omega⟩
  show dd_Rn (e + 16) m_X11_comesIn (0, [.ref 148, .int a1], [], sM Ln I L c s) Q
  refine dd_Rn.sub 4 (pc := 6) (ls := [.ref 148, .int a1]) (st := [.int 0, .int a1, .ref 149]) (M := sM Ln I L c s) (x := m_X11_at) (as := [.int a1, .int 0]) (rest := [.ref 149]) rfl rfl rfl rfl ?_
  show dd_Rn (e + 15) m_X11_at (0, [.int a1, .int 0], [], sM Ln I L c s) _
  refine dd_Rn.retK 7 (pc := 9) (ls := [.int a1, .int 0]) (st := [.int (((187 : Int32) + ((5 : Int32) * a1)) + 0)]) (M := sM Ln I L c s) (o := (none, .int (((187 : Int32) + ((5 : Int32) * a1)) + 0), sM Ln I L c s)) rfl rfl (dd_Af.ret rfl ?_) (by omega)
  show dd_Rn (e + 16) m_X11_comesIn (9, [.ref 148, .int a1], [.int (((187 : Int32) + ((5 : Int32) * a1)) + 0), .ref 149], sM Ln I L c s) _
  obtain ⟨hc, h⟩ := h
  refine dd_Rn.chk 4 (c := 0 ≤ ((187 : Int32) + ((5 : Int32) * a1)) + 0 ∧ tn (((187 : Int32) + ((5 : Int32) * a1)) + 0) < 2220) (A := (16, [.ref 148, .int a1], [], sM Ln (dd_u I 149 (upd (I 149) (tn (((187 : Int32) + ((5 : Int32) * a1)) + 0)) (I 149 4))) L c s)) rfl hc ?_ (by omega)
  refine dd_Rn.sub 4 (pc := 22) (ls := [.ref 148, .int a1]) (st := [.int 3, .int a1, .ref 149]) (M := sM Ln (dd_u I 149 (upd (I 149) (tn (((187 : Int32) + ((5 : Int32) * a1)) + 0)) (I 149 4))) L c s) (x := m_X11_at) (as := [.int a1, .int 3]) (rest := [.ref 149]) rfl rfl rfl rfl ?_
  show dd_Rn (e + 15) m_X11_at (0, [.int a1, .int 3], [], sM Ln (dd_u I 149 (upd (I 149) (tn (((187 : Int32) + ((5 : Int32) * a1)) + 0)) (I 149 4))) L c s) _
  refine dd_Rn.retK 7 (pc := 9) (ls := [.int a1, .int 3]) (st := [.int (((187 : Int32) + ((5 : Int32) * a1)) + 3)]) (M := sM Ln (dd_u I 149 (upd (I 149) (tn (((187 : Int32) + ((5 : Int32) * a1)) + 0)) (I 149 4))) L c s) (o := (none, .int (((187 : Int32) + ((5 : Int32) * a1)) + 3), sM Ln (dd_u I 149 (upd (I 149) (tn (((187 : Int32) + ((5 : Int32) * a1)) + 0)) (I 149 4))) L c s)) rfl rfl (dd_Af.ret rfl ?_) (by omega)
  show dd_Rn (e + 16) m_X11_comesIn (25, [.ref 148, .int a1], [.int (((187 : Int32) + ((5 : Int32) * a1)) + 3), .ref 149], sM Ln (dd_u I 149 (upd (I 149) (tn (((187 : Int32) + ((5 : Int32) * a1)) + 0)) (I 149 4))) L c s) _
  obtain ⟨hc, h⟩ := h
  refine dd_Rn.chk 1 (c := 0 ≤ ((187 : Int32) + ((5 : Int32) * a1)) + 3 ∧ tn (((187 : Int32) + ((5 : Int32) * a1)) + 3) < 2220) (A := (27, [.ref 148, .int a1], [], sM Ln (dd_u (dd_u I 149 (upd (I 149) (tn (((187 : Int32) + ((5 : Int32) * a1)) + 0)) (I 149 4))) 149 (upd (upd (I 149) (tn (((187 : Int32) + ((5 : Int32) * a1)) + 0)) (I 149 4)) (tn (((187 : Int32) + ((5 : Int32) * a1)) + 3)) 1)) L c s)) rfl hc ?_ (by omega)
  exact dd_Rn.retK 0 (pc := 27) (ls := [.ref 148, .int a1]) (st := []) (M := sM Ln (dd_u (dd_u I 149 (upd (I 149) (tn (((187 : Int32) + ((5 : Int32) * a1)) + 0)) (I 149 4))) 149 (upd (upd (I 149) (tn (((187 : Int32) + ((5 : Int32) * a1)) + 0)) (I 149 4)) (tn (((187 : Int32) + ((5 : Int32) * a1)) + 3)) 1)) L c s) (o := (none, .null, sM Ln (dd_u (dd_u I 149 (upd (I 149) (tn (((187 : Int32) + ((5 : Int32) * a1)) + 0)) (I 149 4))) 149 (upd (upd (I 149) (tn (((187 : Int32) + ((5 : Int32) * a1)) + 0)) (I 149 4)) (tn (((187 : Int32) + ((5 : Int32) * a1)) + 3)) 1)) L c s)) rfl rfl h (by omega)

theorem w_X11_firesAt_0 {Ln d c s : Nat} {I : Nat → Nat → Int32} {L : Nat → Nat → Int64} {Q : dd_O → Prop} {a1 : Int32} (hd : 28 ≤ d) (h : dd_Rn d m_X11_firesAt (9, [.ref 148, .int a1, .int 0], [], sM Ln (dd_u I 149 (upd (I 149) 4 a1)) L c s) Q) : dd_Ev d m_X11_firesAt [.ref 148, .int a1] (sM Ln I L c s) Q := by
  obtain ⟨e, rfl⟩ : ∃ e, d = e + 16 := ⟨d - 16, by omega⟩
  show dd_Rn (e + 16) m_X11_firesAt (0, [.ref 148, .int a1, .null], [], sM Ln I L c s) Q
  exact dd_Rn.go 7 (cf' := (9, [.ref 148, .int a1, .int 0], [], sM Ln (dd_u I 149 (upd (I 149) 4 a1)) L c s)) rfl h (by omega)

theorem w_X11_firesAt_9 {Ln d c s : Nat} {I : Nat → Nat → Int32} {L : Nat → Nat → Int64} {Q : dd_O → Prop} {a1 a2 : Int32} (hd : 28 ≤ d) (h : ((I 149 1 ≤ a2 → Q (none, .null, sM Ln I L c s)) ∧ (¬ (I 149 1 ≤ a2) → ((0 ≤ ((187 : Int32) + ((5 : Int32) * a2)) + 3 ∧ tn (((187 : Int32) + ((5 : Int32) * a2)) + 3) < 2220) ∧ ((I 149 (tn (((187 : Int32) + ((5 : Int32) * a2)) + 3)) = 1 → dd_Ev (d - 1) m_X11_comesIn [.ref 148, .int a2] (sM Ln I L c s) (dd_RV Ln c s (fun I1 L1 => dd_Rn d m_X11_firesAt (9, [.ref 148, .int a1, .int (a2 + 1)], [], sM Ln I1 L1 c s) Q))) ∧ (¬ (I 149 (tn (((187 : Int32) + ((5 : Int32) * a2)) + 3)) = 1) → ((0 ≤ ((187 : Int32) + ((5 : Int32) * a2)) + 0 ∧ tn (((187 : Int32) + ((5 : Int32) * a2)) + 0) < 2220) ∧ ((I 149 (tn (((187 : Int32) + ((5 : Int32) * a2)) + 0)) = a1 → dd_Ev (d - 1) m_X11_comesIn [.ref 148, .int a2] (sM Ln I L c s) (dd_RV Ln c s (fun I2 L2 => dd_Rn d m_X11_firesAt (9, [.ref 148, .int a1, .int (a2 + 1)], [], sM Ln I2 L2 c s) Q))) ∧ (¬ (I 149 (tn (((187 : Int32) + ((5 : Int32) * a2)) + 0)) = a1) → dd_Rn d m_X11_firesAt (9, [.ref 148, .int a1, .int (a2 + 1)], [], sM Ln I L c s) Q))))))))) : dd_Rn d m_X11_firesAt (9, [.ref 148, .int a1, .int a2], [], sM Ln I L c s) Q := by
  obtain ⟨e, rfl⟩ : ∃ e, d = e + 16 := ⟨d - 16, by omega⟩
  refine dd_Rn.sub 2 (pc := 11) (ls := [.ref 148, .int a1, .int a2]) (st := [.ref 148, .int a2]) (M := sM Ln I L c s) (x := m_X11_boys) (as := [.ref 148]) (rest := [.int a2]) rfl rfl rfl rfl ?_
  show dd_Rn (e + 15) m_X11_boys (0, [.ref 148], [], sM Ln I L c s) _
  refine dd_Rn.retK 4 (pc := 6) (ls := [.ref 148]) (st := [.int (I 149 1)]) (M := sM Ln I L c s) (o := (none, .int (I 149 1), sM Ln I L c s)) rfl rfl (dd_Af.ret rfl ?_) (by omega)
  show dd_Rn (e + 16) m_X11_firesAt (14, [.ref 148, .int a1, .int a2], [.int (I 149 1), .int a2], sM Ln I L c s) _
  refine dd_Rn.ite 0 (c := I 149 1 ≤ a2) (A := (46, [.ref 148, .int a1, .int a2], [], sM Ln I L c s)) (B := (17, [.ref 148, .int a1, .int a2], [], sM Ln I L c s)) rfl (fun hc => ?_) (fun hc => ?_) (by omega)
  · have h := h.1 hc
    exact dd_Rn.retK 0 (pc := 46) (ls := [.ref 148, .int a1, .int a2]) (st := []) (M := sM Ln I L c s) (o := (none, .null, sM Ln I L c s)) rfl rfl h (by omega)
  · have h := h.2 hc
    refine dd_Rn.sub 2 (pc := 19) (ls := [.ref 148, .int a1, .int a2]) (st := [.int a2, .ref 148]) (M := sM Ln I L c s) (x := m_X11_isIn) (as := [.ref 148, .int a2]) (rest := []) rfl rfl rfl rfl ?_
    show dd_Rn (e + 15) m_X11_isIn (0, [.ref 148, .int a2], [], sM Ln I L c s) _
    refine dd_Rn.sub 3 (pc := 3) (ls := [.ref 148, .int a2]) (st := [.int 3, .int a2, .ref 148]) (M := sM Ln I L c s) (x := m_X11_of) (as := [.ref 148, .int a2, .int 3]) (rest := []) rfl rfl rfl rfl ?_
    show dd_Rn (e + 14) m_X11_of (0, [.ref 148, .int a2, .int 3], [], sM Ln I L c s) _
    refine dd_Rn.sub 4 (pc := 6) (ls := [.ref 148, .int a2, .int 3]) (st := [.int 3, .int a2, .ref 149]) (M := sM Ln I L c s) (x := m_X11_at) (as := [.int a2, .int 3]) (rest := [.ref 149]) rfl rfl rfl rfl ?_
    show dd_Rn (e + 13) m_X11_at (0, [.int a2, .int 3], [], sM Ln I L c s) _
    refine dd_Rn.retK 7 (pc := 9) (ls := [.int a2, .int 3]) (st := [.int (((187 : Int32) + ((5 : Int32) * a2)) + 3)]) (M := sM Ln I L c s) (o := (none, .int (((187 : Int32) + ((5 : Int32) * a2)) + 3), sM Ln I L c s)) rfl rfl (dd_Af.ret rfl ?_) (by omega)
    show dd_Rn (e + 14) m_X11_of (9, [.ref 148, .int a2, .int 3], [.int (((187 : Int32) + ((5 : Int32) * a2)) + 3), .ref 149], sM Ln I L c s) _
    obtain ⟨hc, h⟩ := h
    refine dd_Rn.chk 0 (c := 0 ≤ ((187 : Int32) + ((5 : Int32) * a2)) + 3 ∧ tn (((187 : Int32) + ((5 : Int32) * a2)) + 3) < 2220) (A := (10, [.ref 148, .int a2, .int 3], [.int (I 149 (tn (((187 : Int32) + ((5 : Int32) * a2)) + 3)))], sM Ln I L c s)) rfl hc ?_ (by omega)
    refine dd_Rn.retK 0 (pc := 10) (ls := [.ref 148, .int a2, .int 3]) (st := [.int (I 149 (tn (((187 : Int32) + ((5 : Int32) * a2)) + 3)))]) (M := sM Ln I L c s) (o := (none, .int (I 149 (tn (((187 : Int32) + ((5 : Int32) * a2)) + 3))), sM Ln I L c s)) rfl rfl (dd_Af.ret rfl ?_) (by omega)
    show dd_Rn (e + 15) m_X11_isIn (6, [.ref 148, .int a2], [.int (I 149 (tn (((187 : Int32) + ((5 : Int32) * a2)) + 3)))], sM Ln I L c s) _
    refine dd_Rn.ite 1 (c := I 149 (tn (((187 : Int32) + ((5 : Int32) * a2)) + 3)) = 1) (A := (10, [.ref 148, .int a2], [], sM Ln I L c s)) (B := (14, [.ref 148, .int a2], [], sM Ln I L c s)) rfl (fun hc => ?_) (fun hc => ?_) (by omega)
    · have h := h.1 hc
      refine dd_Rn.retK 2 (pc := 15) (ls := [.ref 148, .int a2]) (st := [.int 1]) (M := sM Ln I L c s) (o := (none, .int 1, sM Ln I L c s)) rfl rfl (dd_Af.ret rfl ?_) (by omega)
      show dd_Rn (e + 16) m_X11_firesAt (22, [.ref 148, .int a1, .int a2], [.int 1], sM Ln I L c s) _
      refine dd_Rn.cV 3 (pc := 37) (ls := [.ref 148, .int a1, .int a2]) (st := [.int a2, .ref 148]) (x := m_X11_comesIn) (as := [.ref 148, .int a2]) (rest := []) rfl rfl rfl rfl h ?_
      intro I1 L1 h
      show dd_Rn (e + 16) m_X11_firesAt (40, [.ref 148, .int a1, .int a2], [], sM Ln I1 L1 c s) _
      exact dd_Rn.go 2 (cf' := (9, [.ref 148, .int a1, .int (a2 + 1)], [], sM Ln I1 L1 c s)) rfl h (by omega)
    · have h := h.2 hc
      refine dd_Rn.retK 1 (pc := 15) (ls := [.ref 148, .int a2]) (st := [.int 0]) (M := sM Ln I L c s) (o := (none, .int 0, sM Ln I L c s)) rfl rfl (dd_Af.ret rfl ?_) (by omega)
      show dd_Rn (e + 16) m_X11_firesAt (22, [.ref 148, .int a1, .int a2], [.int 0], sM Ln I L c s) _
      refine dd_Rn.sub 4 (pc := 28) (ls := [.ref 148, .int a1, .int a2]) (st := [.int 0, .int a2, .ref 148]) (M := sM Ln I L c s) (x := m_X11_of) (as := [.ref 148, .int a2, .int 0]) (rest := []) rfl rfl rfl rfl ?_
      show dd_Rn (e + 15) m_X11_of (0, [.ref 148, .int a2, .int 0], [], sM Ln I L c s) _
      refine dd_Rn.sub 4 (pc := 6) (ls := [.ref 148, .int a2, .int 0]) (st := [.int 0, .int a2, .ref 149]) (M := sM Ln I L c s) (x := m_X11_at) (as := [.int a2, .int 0]) (rest := [.ref 149]) rfl rfl rfl rfl ?_
      show dd_Rn (e + 14) m_X11_at (0, [.int a2, .int 0], [], sM Ln I L c s) _
      refine dd_Rn.retK 7 (pc := 9) (ls := [.int a2, .int 0]) (st := [.int (((187 : Int32) + ((5 : Int32) * a2)) + 0)]) (M := sM Ln I L c s) (o := (none, .int (((187 : Int32) + ((5 : Int32) * a2)) + 0), sM Ln I L c s)) rfl rfl (dd_Af.ret rfl ?_) (by omega)
      show dd_Rn (e + 15) m_X11_of (9, [.ref 148, .int a2, .int 0], [.int (((187 : Int32) + ((5 : Int32) * a2)) + 0), .ref 149], sM Ln I L c s) _
      obtain ⟨hc, h⟩ := h
      refine dd_Rn.chk 0 (c := 0 ≤ ((187 : Int32) + ((5 : Int32) * a2)) + 0 ∧ tn (((187 : Int32) + ((5 : Int32) * a2)) + 0) < 2220) (A := (10, [.ref 148, .int a2, .int 0], [.int (I 149 (tn (((187 : Int32) + ((5 : Int32) * a2)) + 0)))], sM Ln I L c s)) rfl hc ?_ (by omega)
      refine dd_Rn.retK 0 (pc := 10) (ls := [.ref 148, .int a2, .int 0]) (st := [.int (I 149 (tn (((187 : Int32) + ((5 : Int32) * a2)) + 0)))]) (M := sM Ln I L c s) (o := (none, .int (I 149 (tn (((187 : Int32) + ((5 : Int32) * a2)) + 0))), sM Ln I L c s)) rfl rfl (dd_Af.ret rfl ?_) (by omega)
      show dd_Rn (e + 16) m_X11_firesAt (31, [.ref 148, .int a1, .int a2], [.int (I 149 (tn (((187 : Int32) + ((5 : Int32) * a2)) + 0)))], sM Ln I L c s) _
      refine dd_Rn.ite 1 (c := I 149 (tn (((187 : Int32) + ((5 : Int32) * a2)) + 0)) = a1) (A := (35, [.ref 148, .int a1, .int a2], [], sM Ln I L c s)) (B := (40, [.ref 148, .int a1, .int a2], [], sM Ln I L c s)) rfl (fun hc => ?_) (fun hc => ?_) (by omega)
      · have h := h.1 hc
        refine dd_Rn.cV 2 (pc := 37) (ls := [.ref 148, .int a1, .int a2]) (st := [.int a2, .ref 148]) (x := m_X11_comesIn) (as := [.ref 148, .int a2]) (rest := []) rfl rfl rfl rfl h ?_
        intro I2 L2 h
        show dd_Rn (e + 16) m_X11_firesAt (40, [.ref 148, .int a1, .int a2], [], sM Ln I2 L2 c s) _
        exact dd_Rn.go 2 (cf' := (9, [.ref 148, .int a1, .int (a2 + 1)], [], sM Ln I2 L2 c s)) rfl h (by omega)
      · have h := h.2 hc
        exact dd_Rn.go 2 (cf' := (9, [.ref 148, .int a1, .int (a2 + 1)], [], sM Ln I L c s)) rfl h (by omega)

theorem w_X11_factOf_0 {Ln d c s : Nat} {I : Nat → Nat → Int32} {L : Nat → Nat → Int64} {Q : dd_O → Prop} {a1 a2 a3 : Int32} (hd : 28 ≤ d) (h : ((0 ≤ ((187 : Int32) + ((5 : Int32) * a3)) + 0 ∧ tn (((187 : Int32) + ((5 : Int32) * a3)) + 0) < 2220) ∧ ((Int32.toInt a1 < 0 ∨ 9 < Int32.toInt a1 → Q (none, .int a2, sM Ln I L c s)) ∧ (a1 = 0 → Q (none, .int a3, sM Ln I L c s)) ∧ (a1 = 1 → ((0 ≤ ((187 : Int32) + ((5 : Int32) * a3)) + 1 ∧ tn (((187 : Int32) + ((5 : Int32) * a3)) + 1) < 2220) ∧ Q (none, .int (I 149 (tn (((187 : Int32) + ((5 : Int32) * a3)) + 1))), sM Ln I L c s))) ∧ (a1 = 2 → ((0 ≤ ((187 : Int32) + ((5 : Int32) * a3)) + 2 ∧ tn (((187 : Int32) + ((5 : Int32) * a3)) + 2) < 2220) ∧ Q (none, .int (I 149 (tn (((187 : Int32) + ((5 : Int32) * a3)) + 2))), sM Ln I L c s))) ∧ (a1 = 3 → Q (none, .int ((I 149 (tn (((187 : Int32) + ((5 : Int32) * a3)) + 0))) - (I 149 (tn (((187 : Int32) + ((5 : Int32) * a3)) + 0))) / 8 * 8), sM Ln I L c s)) ∧ (a1 = 4 → Q (none, .int ((I 149 (tn (((187 : Int32) + ((5 : Int32) * a3)) + 0))) / 8), sM Ln I L c s)) ∧ (a1 = 5 → dd_Ev (d - 1) m_X11_nearOf [.ref 148, .int (I 149 (tn (((187 : Int32) + ((5 : Int32) * a3)) + 0)))] (sM Ln I L c s) (dd_RI Ln c s (fun x1 I1 L1 => Q (none, .int x1, sM Ln I1 L1 c s)))) ∧ (a1 = 6 → ((0 ≤ ((187 : Int32) + ((5 : Int32) * a3)) + 4 ∧ tn (((187 : Int32) + ((5 : Int32) * a3)) + 4) < 2220) ∧ Q (none, .int (I 149 (tn (((187 : Int32) + ((5 : Int32) * a3)) + 4))), sM Ln I L c s))) ∧ (a1 = 7 → Q (none, .int (I 149 7), sM Ln I L c s)) ∧ (a1 = 8 → ((I 148 18 = 0 → Q (none, .int 1, sM Ln I L c s)) ∧ (¬ (I 148 18 = 0) → Q (none, .int 0, sM Ln I L c s)))) ∧ (a1 = 9 → ((0 ≤ (75 : Int32) + (I 149 (tn (((187 : Int32) + ((5 : Int32) * a3)) + 0))) ∧ tn ((75 : Int32) + (I 149 (tn (((187 : Int32) + ((5 : Int32) * a3)) + 0)))) < 2220) ∧ ((I 149 (tn ((75 : Int32) + (I 149 (tn (((187 : Int32) + ((5 : Int32) * a3)) + 0))))) ≤ 0 → Q (none, .int 0, sM Ln I L c s)) ∧ (¬ (I 149 (tn ((75 : Int32) + (I 149 (tn (((187 : Int32) + ((5 : Int32) * a3)) + 0))))) ≤ 0) → Q (none, .int 1, sM Ln I L c s)))))))) : dd_Ev d m_X11_factOf [.ref 148, .int a1, .int a2, .int a3] (sM Ln I L c s) Q := by
  obtain ⟨e, rfl⟩ : ∃ e, d = e + 16 := ⟨d - 16, by omega⟩
  show dd_Rn (e + 16) m_X11_factOf (0, [.ref 148, .int a1, .int a2, .int a3, .null], [], sM Ln I L c s) Q
  refine dd_Rn.sub 3 (pc := 3) (ls := [.ref 148, .int a1, .int a2, .int a3, .null]) (st := [.int 0, .int a3, .ref 148]) (M := sM Ln I L c s) (x := m_X11_of) (as := [.ref 148, .int a3, .int 0]) (rest := []) rfl rfl rfl rfl ?_
  show dd_Rn (e + 15) m_X11_of (0, [.ref 148, .int a3, .int 0], [], sM Ln I L c s) _
  refine dd_Rn.sub 4 (pc := 6) (ls := [.ref 148, .int a3, .int 0]) (st := [.int 0, .int a3, .ref 149]) (M := sM Ln I L c s) (x := m_X11_at) (as := [.int a3, .int 0]) (rest := [.ref 149]) rfl rfl rfl rfl ?_
  show dd_Rn (e + 14) m_X11_at (0, [.int a3, .int 0], [], sM Ln I L c s) _
  refine dd_Rn.retK 7 (pc := 9) (ls := [.int a3, .int 0]) (st := [.int (((187 : Int32) + ((5 : Int32) * a3)) + 0)]) (M := sM Ln I L c s) (o := (none, .int (((187 : Int32) + ((5 : Int32) * a3)) + 0), sM Ln I L c s)) rfl rfl (dd_Af.ret rfl ?_) (by omega)
  show dd_Rn (e + 15) m_X11_of (9, [.ref 148, .int a3, .int 0], [.int (((187 : Int32) + ((5 : Int32) * a3)) + 0), .ref 149], sM Ln I L c s) _
  obtain ⟨hc, h⟩ := h
  refine dd_Rn.chk 0 (c := 0 ≤ ((187 : Int32) + ((5 : Int32) * a3)) + 0 ∧ tn (((187 : Int32) + ((5 : Int32) * a3)) + 0) < 2220) (A := (10, [.ref 148, .int a3, .int 0], [.int (I 149 (tn (((187 : Int32) + ((5 : Int32) * a3)) + 0)))], sM Ln I L c s)) rfl hc ?_ (by omega)
  refine dd_Rn.retK 0 (pc := 10) (ls := [.ref 148, .int a3, .int 0]) (st := [.int (I 149 (tn (((187 : Int32) + ((5 : Int32) * a3)) + 0)))]) (M := sM Ln I L c s) (o := (none, .int (I 149 (tn (((187 : Int32) + ((5 : Int32) * a3)) + 0))), sM Ln I L c s)) rfl rfl (dd_Af.ret rfl ?_) (by omega)
  show dd_Rn (e + 16) m_X11_factOf (6, [.ref 148, .int a1, .int a2, .int a3, .null], [.int (I 149 (tn (((187 : Int32) + ((5 : Int32) * a3)) + 0)))], sM Ln I L c s) _
  refine dd_Rn.go 2 (cf' := (9, [.ref 148, .int a1, .int a2, .int a3, .int (I 149 (tn (((187 : Int32) + ((5 : Int32) * a3)) + 0)))], [.int a1], sM Ln I L c s)) rfl ?_ (by omega)
  by_cases hs : Int32.toInt a1 < 0 ∨ 9 < Int32.toInt a1
  · have h := h.1 hs
    refine dd_Rn.pos 0 (c := Int32.toInt a1 < 0 ∨ 9 < Int32.toInt a1) (A := (146, [.ref 148, .int a1, .int a2, .int a3, .int (I 149 (tn (((187 : Int32) + ((5 : Int32) * a3)) + 0)))], [], sM Ln I L c s)) rfl hs ?_ (by omega)
    exact dd_Rn.retK 1 (pc := 147) (ls := [.ref 148, .int a1, .int a2, .int a3, .int (I 149 (tn (((187 : Int32) + ((5 : Int32) * a3)) + 0)))]) (st := [.int a2]) (M := sM Ln I L c s) (o := (none, .int a2, sM Ln I L c s)) rfl rfl h (by omega)
  have h := h.2
  have hs : Int32.toInt a1 = 0 ∨ Int32.toInt a1 = 1 ∨ Int32.toInt a1 = 2 ∨ Int32.toInt a1 = 3 ∨ Int32.toInt a1 = 4 ∨ Int32.toInt a1 = 5 ∨ Int32.toInt a1 = 6 ∨ Int32.toInt a1 = 7 ∨ Int32.toInt a1 = 8 ∨ Int32.toInt a1 = 9 := by omega
  rcases hs with hs | hs
  · have hv : a1 = 0 := Int32.toInt_inj.mp (by rw [hs]; rfl)
    have h := h.1 hv
    refine dd_Rn.lit hv ?_
    refine dd_Rn.go 1 (cf' := (64, [.ref 148, .int a1, .int a2, .int a3, .int (I 149 (tn (((187 : Int32) + ((5 : Int32) * a3)) + 0)))], [], sM Ln I L c s)) rfl ?_ (by omega)
    exact dd_Rn.retK 1 (pc := 65) (ls := [.ref 148, .int a1, .int a2, .int a3, .int (I 149 (tn (((187 : Int32) + ((5 : Int32) * a3)) + 0)))]) (st := [.int a3]) (M := sM Ln I L c s) (o := (none, .int a3, sM Ln I L c s)) rfl rfl h (by omega)
  have h := h.2
  rcases hs with hs | hs
  · have hv : a1 = 1 := Int32.toInt_inj.mp (by rw [hs]; rfl)
    have h := h.1 hv
    refine dd_Rn.lit hv ?_
    refine dd_Rn.go 1 (cf' := (66, [.ref 148, .int a1, .int a2, .int a3, .int (I 149 (tn (((187 : Int32) + ((5 : Int32) * a3)) + 0)))], [], sM Ln I L c s)) rfl ?_ (by omega)
    refine dd_Rn.sub 3 (pc := 69) (ls := [.ref 148, .int a1, .int a2, .int a3, .int (I 149 (tn (((187 : Int32) + ((5 : Int32) * a3)) + 0)))]) (st := [.int 1, .int a3, .ref 148]) (M := sM Ln I L c s) (x := m_X11_of) (as := [.ref 148, .int a3, .int 1]) (rest := []) rfl rfl rfl rfl ?_
    show dd_Rn (e + 15) m_X11_of (0, [.ref 148, .int a3, .int 1], [], sM Ln I L c s) _
    refine dd_Rn.sub 4 (pc := 6) (ls := [.ref 148, .int a3, .int 1]) (st := [.int 1, .int a3, .ref 149]) (M := sM Ln I L c s) (x := m_X11_at) (as := [.int a3, .int 1]) (rest := [.ref 149]) rfl rfl rfl rfl ?_
    show dd_Rn (e + 14) m_X11_at (0, [.int a3, .int 1], [], sM Ln I L c s) _
    refine dd_Rn.retK 7 (pc := 9) (ls := [.int a3, .int 1]) (st := [.int (((187 : Int32) + ((5 : Int32) * a3)) + 1)]) (M := sM Ln I L c s) (o := (none, .int (((187 : Int32) + ((5 : Int32) * a3)) + 1), sM Ln I L c s)) rfl rfl (dd_Af.ret rfl ?_) (by omega)
    show dd_Rn (e + 15) m_X11_of (9, [.ref 148, .int a3, .int 1], [.int (((187 : Int32) + ((5 : Int32) * a3)) + 1), .ref 149], sM Ln I L c s) _
    obtain ⟨hc, h⟩ := h
    refine dd_Rn.chk 0 (c := 0 ≤ ((187 : Int32) + ((5 : Int32) * a3)) + 1 ∧ tn (((187 : Int32) + ((5 : Int32) * a3)) + 1) < 2220) (A := (10, [.ref 148, .int a3, .int 1], [.int (I 149 (tn (((187 : Int32) + ((5 : Int32) * a3)) + 1)))], sM Ln I L c s)) rfl hc ?_ (by omega)
    refine dd_Rn.retK 0 (pc := 10) (ls := [.ref 148, .int a3, .int 1]) (st := [.int (I 149 (tn (((187 : Int32) + ((5 : Int32) * a3)) + 1)))]) (M := sM Ln I L c s) (o := (none, .int (I 149 (tn (((187 : Int32) + ((5 : Int32) * a3)) + 1))), sM Ln I L c s)) rfl rfl (dd_Af.ret rfl ?_) (by omega)
    show dd_Rn (e + 16) m_X11_factOf (72, [.ref 148, .int a1, .int a2, .int a3, .int (I 149 (tn (((187 : Int32) + ((5 : Int32) * a3)) + 0)))], [.int (I 149 (tn (((187 : Int32) + ((5 : Int32) * a3)) + 1)))], sM Ln I L c s) _
    exact dd_Rn.retK 0 (pc := 72) (ls := [.ref 148, .int a1, .int a2, .int a3, .int (I 149 (tn (((187 : Int32) + ((5 : Int32) * a3)) + 0)))]) (st := [.int (I 149 (tn (((187 : Int32) + ((5 : Int32) * a3)) + 1)))]) (M := sM Ln I L c s) (o := (none, .int (I 149 (tn (((187 : Int32) + ((5 : Int32) * a3)) + 1))), sM Ln I L c s)) rfl rfl h (by omega)
  have h := h.2
  rcases hs with hs | hs
  · have hv : a1 = 2 := Int32.toInt_inj.mp (by rw [hs]; rfl)
    have h := h.1 hv
    refine dd_Rn.lit hv ?_
    refine dd_Rn.go 1 (cf' := (73, [.ref 148, .int a1, .int a2, .int a3, .int (I 149 (tn (((187 : Int32) + ((5 : Int32) * a3)) + 0)))], [], sM Ln I L c s)) rfl ?_ (by omega)
    refine dd_Rn.sub 3 (pc := 76) (ls := [.ref 148, .int a1, .int a2, .int a3, .int (I 149 (tn (((187 : Int32) + ((5 : Int32) * a3)) + 0)))]) (st := [.int 2, .int a3, .ref 148]) (M := sM Ln I L c s) (x := m_X11_of) (as := [.ref 148, .int a3, .int 2]) (rest := []) rfl rfl rfl rfl ?_
    show dd_Rn (e + 15) m_X11_of (0, [.ref 148, .int a3, .int 2], [], sM Ln I L c s) _
    refine dd_Rn.sub 4 (pc := 6) (ls := [.ref 148, .int a3, .int 2]) (st := [.int 2, .int a3, .ref 149]) (M := sM Ln I L c s) (x := m_X11_at) (as := [.int a3, .int 2]) (rest := [.ref 149]) rfl rfl rfl rfl ?_
    show dd_Rn (e + 14) m_X11_at (0, [.int a3, .int 2], [], sM Ln I L c s) _
    refine dd_Rn.retK 7 (pc := 9) (ls := [.int a3, .int 2]) (st := [.int (((187 : Int32) + ((5 : Int32) * a3)) + 2)]) (M := sM Ln I L c s) (o := (none, .int (((187 : Int32) + ((5 : Int32) * a3)) + 2), sM Ln I L c s)) rfl rfl (dd_Af.ret rfl ?_) (by omega)
    show dd_Rn (e + 15) m_X11_of (9, [.ref 148, .int a3, .int 2], [.int (((187 : Int32) + ((5 : Int32) * a3)) + 2), .ref 149], sM Ln I L c s) _
    obtain ⟨hc, h⟩ := h
    refine dd_Rn.chk 0 (c := 0 ≤ ((187 : Int32) + ((5 : Int32) * a3)) + 2 ∧ tn (((187 : Int32) + ((5 : Int32) * a3)) + 2) < 2220) (A := (10, [.ref 148, .int a3, .int 2], [.int (I 149 (tn (((187 : Int32) + ((5 : Int32) * a3)) + 2)))], sM Ln I L c s)) rfl hc ?_ (by omega)
    refine dd_Rn.retK 0 (pc := 10) (ls := [.ref 148, .int a3, .int 2]) (st := [.int (I 149 (tn (((187 : Int32) + ((5 : Int32) * a3)) + 2)))]) (M := sM Ln I L c s) (o := (none, .int (I 149 (tn (((187 : Int32) + ((5 : Int32) * a3)) + 2))), sM Ln I L c s)) rfl rfl (dd_Af.ret rfl ?_) (by omega)
    show dd_Rn (e + 16) m_X11_factOf (79, [.ref 148, .int a1, .int a2, .int a3, .int (I 149 (tn (((187 : Int32) + ((5 : Int32) * a3)) + 0)))], [.int (I 149 (tn (((187 : Int32) + ((5 : Int32) * a3)) + 2)))], sM Ln I L c s) _
    exact dd_Rn.retK 0 (pc := 79) (ls := [.ref 148, .int a1, .int a2, .int a3, .int (I 149 (tn (((187 : Int32) + ((5 : Int32) * a3)) + 0)))]) (st := [.int (I 149 (tn (((187 : Int32) + ((5 : Int32) * a3)) + 2)))]) (M := sM Ln I L c s) (o := (none, .int (I 149 (tn (((187 : Int32) + ((5 : Int32) * a3)) + 2))), sM Ln I L c s)) rfl rfl h (by omega)
  have h := h.2
  rcases hs with hs | hs
  · have hv : a1 = 3 := Int32.toInt_inj.mp (by rw [hs]; rfl)
    have h := h.1 hv
    refine dd_Rn.lit hv ?_
    refine dd_Rn.go 1 (cf' := (80, [.ref 148, .int a1, .int a2, .int a3, .int (I 149 (tn (((187 : Int32) + ((5 : Int32) * a3)) + 0)))], [], sM Ln I L c s)) rfl ?_ (by omega)
    exact dd_Rn.retK 3 (pc := 85) (ls := [.ref 148, .int a1, .int a2, .int a3, .int (I 149 (tn (((187 : Int32) + ((5 : Int32) * a3)) + 0)))]) (st := [.int ((I 149 (tn (((187 : Int32) + ((5 : Int32) * a3)) + 0))) - (I 149 (tn (((187 : Int32) + ((5 : Int32) * a3)) + 0))) / 8 * 8)]) (M := sM Ln I L c s) (o := (none, .int ((I 149 (tn (((187 : Int32) + ((5 : Int32) * a3)) + 0))) - (I 149 (tn (((187 : Int32) + ((5 : Int32) * a3)) + 0))) / 8 * 8), sM Ln I L c s)) rfl rfl h (by omega)
  have h := h.2
  rcases hs with hs | hs
  · have hv : a1 = 4 := Int32.toInt_inj.mp (by rw [hs]; rfl)
    have h := h.1 hv
    refine dd_Rn.lit hv ?_
    refine dd_Rn.go 1 (cf' := (86, [.ref 148, .int a1, .int a2, .int a3, .int (I 149 (tn (((187 : Int32) + ((5 : Int32) * a3)) + 0)))], [], sM Ln I L c s)) rfl ?_ (by omega)
    exact dd_Rn.retK 3 (pc := 91) (ls := [.ref 148, .int a1, .int a2, .int a3, .int (I 149 (tn (((187 : Int32) + ((5 : Int32) * a3)) + 0)))]) (st := [.int ((I 149 (tn (((187 : Int32) + ((5 : Int32) * a3)) + 0))) / 8)]) (M := sM Ln I L c s) (o := (none, .int ((I 149 (tn (((187 : Int32) + ((5 : Int32) * a3)) + 0))) / 8), sM Ln I L c s)) rfl rfl h (by omega)
  have h := h.2
  rcases hs with hs | hs
  · have hv : a1 = 5 := Int32.toInt_inj.mp (by rw [hs]; rfl)
    have h := h.1 hv
    refine dd_Rn.lit hv ?_
    refine dd_Rn.go 1 (cf' := (92, [.ref 148, .int a1, .int a2, .int a3, .int (I 149 (tn (((187 : Int32) + ((5 : Int32) * a3)) + 0)))], [], sM Ln I L c s)) rfl ?_ (by omega)
    refine dd_Rn.cI 2 (pc := 95) (ls := [.ref 148, .int a1, .int a2, .int a3, .int (I 149 (tn (((187 : Int32) + ((5 : Int32) * a3)) + 0)))]) (st := [.int (I 149 (tn (((187 : Int32) + ((5 : Int32) * a3)) + 0))), .ref 148]) (x := m_X11_nearOf) (as := [.ref 148, .int (I 149 (tn (((187 : Int32) + ((5 : Int32) * a3)) + 0)))]) (rest := []) rfl rfl rfl rfl h ?_
    intro x1 I1 L1 h
    show dd_Rn (e + 16) m_X11_factOf (98, [.ref 148, .int a1, .int a2, .int a3, .int (I 149 (tn (((187 : Int32) + ((5 : Int32) * a3)) + 0)))], [.int x1], sM Ln I1 L1 c s) _
    exact dd_Rn.retK 0 (pc := 98) (ls := [.ref 148, .int a1, .int a2, .int a3, .int (I 149 (tn (((187 : Int32) + ((5 : Int32) * a3)) + 0)))]) (st := [.int x1]) (M := sM Ln I1 L1 c s) (o := (none, .int x1, sM Ln I1 L1 c s)) rfl rfl h (by omega)
  have h := h.2
  rcases hs with hs | hs
  · have hv : a1 = 6 := Int32.toInt_inj.mp (by rw [hs]; rfl)
    have h := h.1 hv
    refine dd_Rn.lit hv ?_
    refine dd_Rn.go 1 (cf' := (99, [.ref 148, .int a1, .int a2, .int a3, .int (I 149 (tn (((187 : Int32) + ((5 : Int32) * a3)) + 0)))], [], sM Ln I L c s)) rfl ?_ (by omega)
    refine dd_Rn.sub 3 (pc := 102) (ls := [.ref 148, .int a1, .int a2, .int a3, .int (I 149 (tn (((187 : Int32) + ((5 : Int32) * a3)) + 0)))]) (st := [.int 4, .int a3, .ref 148]) (M := sM Ln I L c s) (x := m_X11_of) (as := [.ref 148, .int a3, .int 4]) (rest := []) rfl rfl rfl rfl ?_
    show dd_Rn (e + 15) m_X11_of (0, [.ref 148, .int a3, .int 4], [], sM Ln I L c s) _
    refine dd_Rn.sub 4 (pc := 6) (ls := [.ref 148, .int a3, .int 4]) (st := [.int 4, .int a3, .ref 149]) (M := sM Ln I L c s) (x := m_X11_at) (as := [.int a3, .int 4]) (rest := [.ref 149]) rfl rfl rfl rfl ?_
    show dd_Rn (e + 14) m_X11_at (0, [.int a3, .int 4], [], sM Ln I L c s) _
    refine dd_Rn.retK 7 (pc := 9) (ls := [.int a3, .int 4]) (st := [.int (((187 : Int32) + ((5 : Int32) * a3)) + 4)]) (M := sM Ln I L c s) (o := (none, .int (((187 : Int32) + ((5 : Int32) * a3)) + 4), sM Ln I L c s)) rfl rfl (dd_Af.ret rfl ?_) (by omega)
    show dd_Rn (e + 15) m_X11_of (9, [.ref 148, .int a3, .int 4], [.int (((187 : Int32) + ((5 : Int32) * a3)) + 4), .ref 149], sM Ln I L c s) _
    obtain ⟨hc, h⟩ := h
    refine dd_Rn.chk 0 (c := 0 ≤ ((187 : Int32) + ((5 : Int32) * a3)) + 4 ∧ tn (((187 : Int32) + ((5 : Int32) * a3)) + 4) < 2220) (A := (10, [.ref 148, .int a3, .int 4], [.int (I 149 (tn (((187 : Int32) + ((5 : Int32) * a3)) + 4)))], sM Ln I L c s)) rfl hc ?_ (by omega)
    refine dd_Rn.retK 0 (pc := 10) (ls := [.ref 148, .int a3, .int 4]) (st := [.int (I 149 (tn (((187 : Int32) + ((5 : Int32) * a3)) + 4)))]) (M := sM Ln I L c s) (o := (none, .int (I 149 (tn (((187 : Int32) + ((5 : Int32) * a3)) + 4))), sM Ln I L c s)) rfl rfl (dd_Af.ret rfl ?_) (by omega)
    show dd_Rn (e + 16) m_X11_factOf (105, [.ref 148, .int a1, .int a2, .int a3, .int (I 149 (tn (((187 : Int32) + ((5 : Int32) * a3)) + 0)))], [.int (I 149 (tn (((187 : Int32) + ((5 : Int32) * a3)) + 4)))], sM Ln I L c s) _
    exact dd_Rn.retK 0 (pc := 105) (ls := [.ref 148, .int a1, .int a2, .int a3, .int (I 149 (tn (((187 : Int32) + ((5 : Int32) * a3)) + 0)))]) (st := [.int (I 149 (tn (((187 : Int32) + ((5 : Int32) * a3)) + 4)))]) (M := sM Ln I L c s) (o := (none, .int (I 149 (tn (((187 : Int32) + ((5 : Int32) * a3)) + 4))), sM Ln I L c s)) rfl rfl h (by omega)
  have h := h.2
  rcases hs with hs | hs
  · have hv : a1 = 7 := Int32.toInt_inj.mp (by rw [hs]; rfl)
    have h := h.1 hv
    refine dd_Rn.lit hv ?_
    refine dd_Rn.go 1 (cf' := (106, [.ref 148, .int a1, .int a2, .int a3, .int (I 149 (tn (((187 : Int32) + ((5 : Int32) * a3)) + 0)))], [], sM Ln I L c s)) rfl ?_ (by omega)
    exact dd_Rn.retK 4 (pc := 113) (ls := [.ref 148, .int a1, .int a2, .int a3, .int (I 149 (tn (((187 : Int32) + ((5 : Int32) * a3)) + 0)))]) (st := [.int (I 149 7)]) (M := sM Ln I L c s) (o := (none, .int (I 149 7), sM Ln I L c s)) rfl rfl h (by omega)
  have h := h.2
  rcases hs with hs | hs
  · have hv : a1 = 8 := Int32.toInt_inj.mp (by rw [hs]; rfl)
    have h := h.1 hv
    refine dd_Rn.lit hv ?_
    refine dd_Rn.go 1 (cf' := (114, [.ref 148, .int a1, .int a2, .int a3, .int (I 149 (tn (((187 : Int32) + ((5 : Int32) * a3)) + 0)))], [], sM Ln I L c s)) rfl ?_ (by omega)
    refine dd_Rn.ite 2 (c := I 148 18 = 0) (A := (121, [.ref 148, .int a1, .int a2, .int a3, .int (I 149 (tn (((187 : Int32) + ((5 : Int32) * a3)) + 0)))], [], sM Ln I L c s)) (B := (125, [.ref 148, .int a1, .int a2, .int a3, .int (I 149 (tn (((187 : Int32) + ((5 : Int32) * a3)) + 0)))], [], sM Ln I L c s)) rfl (fun hc => ?_) (fun hc => ?_) (by omega)
    · have h := h.1 hc
      exact dd_Rn.retK 2 (pc := 126) (ls := [.ref 148, .int a1, .int a2, .int a3, .int (I 149 (tn (((187 : Int32) + ((5 : Int32) * a3)) + 0)))]) (st := [.int 1]) (M := sM Ln I L c s) (o := (none, .int 1, sM Ln I L c s)) rfl rfl h (by omega)
    · have h := h.2 hc
      exact dd_Rn.retK 1 (pc := 126) (ls := [.ref 148, .int a1, .int a2, .int a3, .int (I 149 (tn (((187 : Int32) + ((5 : Int32) * a3)) + 0)))]) (st := [.int 0]) (M := sM Ln I L c s) (o := (none, .int 0, sM Ln I L c s)) rfl rfl h (by omega)
  have h := h.2
  · have hv : a1 = 9 := Int32.toInt_inj.mp (by rw [hs]; rfl)
    have h := h hv
    refine dd_Rn.lit hv ?_
    refine dd_Rn.go 1 (cf' := (127, [.ref 148, .int a1, .int a2, .int a3, .int (I 149 (tn (((187 : Int32) + ((5 : Int32) * a3)) + 0)))], [], sM Ln I L c s)) rfl ?_ (by omega)
    obtain ⟨hc, h⟩ := h
    refine dd_Rn.chk 5 (c := 0 ≤ (75 : Int32) + (I 149 (tn (((187 : Int32) + ((5 : Int32) * a3)) + 0))) ∧ tn ((75 : Int32) + (I 149 (tn (((187 : Int32) + ((5 : Int32) * a3)) + 0)))) < 2220) (A := (137, [.ref 148, .int a1, .int a2, .int a3, .int (I 149 (tn (((187 : Int32) + ((5 : Int32) * a3)) + 0)))], [.int (I 149 (tn ((75 : Int32) + (I 149 (tn (((187 : Int32) + ((5 : Int32) * a3)) + 0))))))], sM Ln I L c s)) rfl hc ?_ (by omega)
    refine dd_Rn.ite 0 (c := I 149 (tn ((75 : Int32) + (I 149 (tn (((187 : Int32) + ((5 : Int32) * a3)) + 0))))) ≤ 0) (A := (144, [.ref 148, .int a1, .int a2, .int a3, .int (I 149 (tn (((187 : Int32) + ((5 : Int32) * a3)) + 0)))], [], sM Ln I L c s)) (B := (140, [.ref 148, .int a1, .int a2, .int a3, .int (I 149 (tn (((187 : Int32) + ((5 : Int32) * a3)) + 0)))], [], sM Ln I L c s)) rfl (fun hc => ?_) (fun hc => ?_) (by omega)
    · have h := h.1 hc
      exact dd_Rn.retK 1 (pc := 145) (ls := [.ref 148, .int a1, .int a2, .int a3, .int (I 149 (tn (((187 : Int32) + ((5 : Int32) * a3)) + 0)))]) (st := [.int 0]) (M := sM Ln I L c s) (o := (none, .int 0, sM Ln I L c s)) rfl rfl h (by omega)
    · have h := h.2 hc
      exact dd_Rn.retK 2 (pc := 145) (ls := [.ref 148, .int a1, .int a2, .int a3, .int (I 149 (tn (((187 : Int32) + ((5 : Int32) * a3)) + 0)))]) (st := [.int 1]) (M := sM Ln I L c s) (o := (none, .int 1, sM Ln I L c s)) rfl rfl h (by omega)

theorem w_X11_holdsLine_0 {Ln d c s : Nat} {I : Nat → Nat → Int32} {L : Nat → Nat → Int64} {Q : dd_O → Prop} {a1 a2 : Int32} (hd : 28 ≤ d) (h : ((0 ≤ ((523 : Int32) + ((4 : Int32) * a1)) + 2 ∧ tn (((523 : Int32) + ((4 : Int32) * a1)) + 2) < 2220) ∧ dd_Rn d m_X11_holdsLine (22, [.ref 148, .int a1, .int a2, .int 0, .int ((523 : Int32) + ((4 : Int32) * a1)), .int (I 149 (tn (((523 : Int32) + ((4 : Int32) * a1)) + 2))), .null, .null, .null, .null], [], sM Ln I L c s) Q)) : dd_Ev d m_X11_holdsLine [.ref 148, .int a1, .int a2] (sM Ln I L c s) Q := by
  obtain ⟨e, rfl⟩ : ∃ e, d = e + 16 := ⟨d - 16, by omega⟩
  show dd_Rn (e + 16) m_X11_holdsLine (0, [.ref 148, .int a1, .int a2, .null, .null, .null, .null, .null, .null, .null], [], sM Ln I L c s) Q
  obtain ⟨hc, h⟩ := h
  refine dd_Rn.chk 13 (c := 0 ≤ ((523 : Int32) + ((4 : Int32) * a1)) + 2 ∧ tn (((523 : Int32) + ((4 : Int32) * a1)) + 2) < 2220) (A := (20, [.ref 148, .int a1, .int a2, .int 0, .int ((523 : Int32) + ((4 : Int32) * a1)), .null, .null, .null, .null, .null], [.int (I 149 (tn (((523 : Int32) + ((4 : Int32) * a1)) + 2)))], sM Ln I L c s)) rfl hc ?_ (by omega)
  exact dd_Rn.go 1 (cf' := (22, [.ref 148, .int a1, .int a2, .int 0, .int ((523 : Int32) + ((4 : Int32) * a1)), .int (I 149 (tn (((523 : Int32) + ((4 : Int32) * a1)) + 2))), .null, .null, .null, .null], [], sM Ln I L c s)) rfl h (by omega)

theorem w_X11_holdsLine_22 {Ln d c s : Nat} {I : Nat → Nat → Int32} {L : Nat → Nat → Int64} {Q : dd_O → Prop} {a1 a2 a3 a4 a5 : Int32} {a6 a7 a8 a9 : Value} (hd : 28 ≤ d) (h : ((0 ≤ a4 + 3 ∧ tn (a4 + 3) < 2220) ∧ ((I 149 (tn (a4 + 3)) ≤ a5 → ((a3 = 0 → Q (none, .int 1, sM Ln I L c s)) ∧ (¬ (a3 = 0) → ((I 156 0 = 1 → Q (none, .int 1, sM Ln I L c s)) ∧ (¬ (I 156 0 = 1) → Q (none, .int 0, sM Ln I L c s)))))) ∧ (¬ (I 149 (tn (a4 + 3)) ≤ a5) → ((0 ≤ (571 : Int32) + ((2 : Int32) * a5) ∧ tn ((571 : Int32) + ((2 : Int32) * a5)) < 2220) ∧ (((10 : Int32) < I 149 (tn ((571 : Int32) + ((2 : Int32) * a5))) → ((I 149 (tn ((571 : Int32) + ((2 : Int32) * a5))) = 14 → ((0 ≤ a3 - 1 ∧ tn (a3 - 1) < 400) ∧ ((0 ≤ a3 - 1 ∧ tn (a3 - 1) < 400) ∧ dd_Rn d m_X11_holdsLine (257, [.ref 148, .int a1, .int a2, .int a3, .int a4, .int a5, .int (I 149 (tn ((571 : Int32) + ((2 : Int32) * a5)))), a7, a8, a9], [], sM Ln (dd_u I 156 (upd (I 156) (tn (a3 - 1)) ((1 : Int32) - (I 156 (tn (a3 - 1)))))) L c s) Q))) ∧ (¬ (I 149 (tn ((571 : Int32) + ((2 : Int32) * a5))) = 14) → ((0 ≤ (a3 + (-1)) - 1 ∧ tn ((a3 + (-1)) - 1) < 400) ∧ ((0 ≤ a3 + (-1) ∧ tn (a3 + (-1)) < 400) ∧ ((I 149 (tn ((571 : Int32) + ((2 : Int32) * a5))) = 12 → ((I 156 (tn (a3 + (-1))) ≤ I 156 (tn ((a3 + (-1)) - 1)) → dd_Rn d m_X11_holdsLine (222, [.ref 148, .int a1, .int a2, .int (a3 + (-1)), .int a4, .int a5, .int (I 149 (tn ((571 : Int32) + ((2 : Int32) * a5)))), .int (I 156 (tn ((a3 + (-1)) - 1))), .int (I 156 (tn (a3 + (-1)))), a9], [.int 0], sM Ln I L c s) Q) ∧ (¬ (I 156 (tn (a3 + (-1))) ≤ I 156 (tn ((a3 + (-1)) - 1))) → dd_Rn d m_X11_holdsLine (222, [.ref 148, .int a1, .int a2, .int (a3 + (-1)), .int a4, .int a5, .int (I 149 (tn ((571 : Int32) + ((2 : Int32) * a5)))), .int (I 156 (tn ((a3 + (-1)) - 1))), .int (I 156 (tn (a3 + (-1)))), a9], [.int 1], sM Ln I L c s) Q))) ∧ (¬ (I 149 (tn ((571 : Int32) + ((2 : Int32) * a5))) = 12) → ((I 149 (tn ((571 : Int32) + ((2 : Int32) * a5))) = 13 → ((I 156 (tn ((a3 + (-1)) - 1)) ≤ I 156 (tn (a3 + (-1))) → dd_Rn d m_X11_holdsLine (222, [.ref 148, .int a1, .int a2, .int (a3 + (-1)), .int a4, .int a5, .int (I 149 (tn ((571 : Int32) + ((2 : Int32) * a5)))), .int (I 156 (tn ((a3 + (-1)) - 1))), .int (I 156 (tn (a3 + (-1)))), a9], [.int 0], sM Ln I L c s) Q) ∧ (¬ (I 156 (tn ((a3 + (-1)) - 1)) ≤ I 156 (tn (a3 + (-1)))) → dd_Rn d m_X11_holdsLine (222, [.ref 148, .int a1, .int a2, .int (a3 + (-1)), .int a4, .int a5, .int (I 149 (tn ((571 : Int32) + ((2 : Int32) * a5)))), .int (I 156 (tn ((a3 + (-1)) - 1))), .int (I 156 (tn (a3 + (-1)))), a9], [.int 1], sM Ln I L c s) Q))) ∧ (¬ (I 149 (tn ((571 : Int32) + ((2 : Int32) * a5))) = 13) → ((I 149 (tn ((571 : Int32) + ((2 : Int32) * a5))) = 15 → (((I 156 (tn ((a3 + (-1)) - 1))) + (I 156 (tn (a3 + (-1)))) = 2 → dd_Rn d m_X11_holdsLine (222, [.ref 148, .int a1, .int a2, .int (a3 + (-1)), .int a4, .int a5, .int (I 149 (tn ((571 : Int32) + ((2 : Int32) * a5)))), .int (I 156 (tn ((a3 + (-1)) - 1))), .int (I 156 (tn (a3 + (-1)))), a9], [.int 1], sM Ln I L c s) Q) ∧ (¬ ((I 156 (tn ((a3 + (-1)) - 1))) + (I 156 (tn (a3 + (-1)))) = 2) → dd_Rn d m_X11_holdsLine (222, [.ref 148, .int a1, .int a2, .int (a3 + (-1)), .int a4, .int a5, .int (I 149 (tn ((571 : Int32) + ((2 : Int32) * a5)))), .int (I 156 (tn ((a3 + (-1)) - 1))), .int (I 156 (tn (a3 + (-1)))), a9], [.int 0], sM Ln I L c s) Q))) ∧ (¬ (I 149 (tn ((571 : Int32) + ((2 : Int32) * a5))) = 15) → (((I 156 (tn ((a3 + (-1)) - 1))) + (I 156 (tn (a3 + (-1)))) ≤ 0 → dd_Rn d m_X11_holdsLine (222, [.ref 148, .int a1, .int a2, .int (a3 + (-1)), .int a4, .int a5, .int (I 149 (tn ((571 : Int32) + ((2 : Int32) * a5)))), .int (I 156 (tn ((a3 + (-1)) - 1))), .int (I 156 (tn (a3 + (-1)))), a9], [.int 0], sM Ln I L c s) Q) ∧ (¬ ((I 156 (tn ((a3 + (-1)) - 1))) + (I 156 (tn (a3 + (-1)))) ≤ 0) → dd_Rn d m_X11_holdsLine (222, [.ref 148, .int a1, .int a2, .int (a3 + (-1)), .int a4, .int a5, .int (I 149 (tn ((571 : Int32) + ((2 : Int32) * a5)))), .int (I 156 (tn ((a3 + (-1)) - 1))), .int (I 156 (tn (a3 + (-1)))), a9], [.int 1], sM Ln I L c s) Q))))))))))))) ∧ (¬ ((10 : Int32) < I 149 (tn ((571 : Int32) + ((2 : Int32) * a5)))) → ((0 ≤ ((571 : Int32) + ((2 : Int32) * a5)) + 1 ∧ tn (((571 : Int32) + ((2 : Int32) * a5)) + 1) < 2220) ∧ dd_Ev (d - 1) m_X11_factOf [.ref 148, .int (I 149 (tn ((571 : Int32) + ((2 : Int32) * a5)))), .int (I 149 (tn (((571 : Int32) + ((2 : Int32) * a5)) + 1))), .int a2] (sM Ln I L c s) (dd_RI Ln c s (fun x1 I1 L1 => ((0 ≤ a3 ∧ tn a3 < 400) ∧ dd_Rn d m_X11_holdsLine (257, [.ref 148, .int a1, .int a2, .int (a3 + 1), .int a4, .int a5, .int (I 149 (tn ((571 : Int32) + ((2 : Int32) * a5)))), a7, a8, a9], [], sM Ln (dd_u I1 156 (upd (I1 156) (tn a3) x1)) L1 c s) Q))))))))))) : dd_Rn d m_X11_holdsLine (22, [.ref 148, .int a1, .int a2, .int a3, .int a4, .int a5, a6, a7, a8, a9], [], sM Ln I L c s) Q := by
  obtain ⟨e, rfl⟩ : ∃ e, d = e + 16 := ⟨d - 16, by omega⟩
  obtain ⟨hc, h⟩ := h
  refine dd_Rn.chk 6 (c := 0 ≤ a4 + 3 ∧ tn (a4 + 3) < 2220) (A := (33, [.ref 148, .int a1, .int a2, .int a3, .int a4, .int a5, a6, a7, a8, a9], [.int (I 149 (tn (a4 + 3))), .int a5], sM Ln I L c s)) rfl hc ?_ (by omega)
  refine dd_Rn.ite 0 (c := I 149 (tn (a4 + 3)) ≤ a5) (A := (263, [.ref 148, .int a1, .int a2, .int a3, .int a4, .int a5, a6, a7, a8, a9], [], sM Ln I L c s)) (B := (36, [.ref 148, .int a1, .int a2, .int a3, .int a4, .int a5, a6, a7, a8, a9], [], sM Ln I L c s)) rfl (fun hc => ?_) (fun hc => ?_) (by omega)
  · have h := h.1 hc
    refine dd_Rn.ite 1 (c := a3 = 0) (A := (277, [.ref 148, .int a1, .int a2, .int a3, .int a4, .int a5, a6, a7, a8, a9], [], sM Ln I L c s)) (B := (267, [.ref 148, .int a1, .int a2, .int a3, .int a4, .int a5, a6, a7, a8, a9], [], sM Ln I L c s)) rfl (fun hc => ?_) (fun hc => ?_) (by omega)
    · have h := h.1 hc
      exact dd_Rn.retK 2 (pc := 282) (ls := [.ref 148, .int a1, .int a2, .int a3, .int a4, .int a5, a6, a7, a8, a9]) (st := [.int 1]) (M := sM Ln I L c s) (o := (none, .int 1, sM Ln I L c s)) rfl rfl h (by omega)
    · have h := h.2 hc
      refine dd_Rn.ite 5 (c := I 156 0 = 1) (A := (277, [.ref 148, .int a1, .int a2, .int a3, .int a4, .int a5, a6, a7, a8, a9], [], sM Ln I L c s)) (B := (281, [.ref 148, .int a1, .int a2, .int a3, .int a4, .int a5, a6, a7, a8, a9], [], sM Ln I L c s)) rfl (fun hc => ?_) (fun hc => ?_) (by omega)
      · have h := h.1 hc
        exact dd_Rn.retK 2 (pc := 282) (ls := [.ref 148, .int a1, .int a2, .int a3, .int a4, .int a5, a6, a7, a8, a9]) (st := [.int 1]) (M := sM Ln I L c s) (o := (none, .int 1, sM Ln I L c s)) rfl rfl h (by omega)
      · have h := h.2 hc
        exact dd_Rn.retK 1 (pc := 282) (ls := [.ref 148, .int a1, .int a2, .int a3, .int a4, .int a5, a6, a7, a8, a9]) (st := [.int 0]) (M := sM Ln I L c s) (o := (none, .int 0, sM Ln I L c s)) rfl rfl h (by omega)
  · have h := h.2 hc
    obtain ⟨hc, h⟩ := h
    refine dd_Rn.chk 7 (c := 0 ≤ (571 : Int32) + ((2 : Int32) * a5) ∧ tn ((571 : Int32) + ((2 : Int32) * a5)) < 2220) (A := (49, [.ref 148, .int a1, .int a2, .int a3, .int a4, .int a5, a6, a7, a8, a9], [.int (I 149 (tn ((571 : Int32) + ((2 : Int32) * a5))))], sM Ln I L c s)) rfl hc ?_ (by omega)
    refine dd_Rn.ite 3 (c := (10 : Int32) < I 149 (tn ((571 : Int32) + ((2 : Int32) * a5)))) (A := (92, [.ref 148, .int a1, .int a2, .int a3, .int a4, .int a5, .int (I 149 (tn ((571 : Int32) + ((2 : Int32) * a5)))), a7, a8, a9], [], sM Ln I L c s)) (B := (58, [.ref 148, .int a1, .int a2, .int a3, .int a4, .int a5, .int (I 149 (tn ((571 : Int32) + ((2 : Int32) * a5)))), a7, a8, a9], [], sM Ln I L c s)) rfl (fun hc => ?_) (fun hc => ?_) (by omega)
    · have h := h.1 hc
      refine dd_Rn.ite 2 (c := I 149 (tn ((571 : Int32) + ((2 : Int32) * a5))) = 14) (A := (99, [.ref 148, .int a1, .int a2, .int a3, .int a4, .int a5, .int (I 149 (tn ((571 : Int32) + ((2 : Int32) * a5)))), a7, a8, a9], [], sM Ln I L c s)) (B := (120, [.ref 148, .int a1, .int a2, .int a3, .int a4, .int a5, .int (I 149 (tn ((571 : Int32) + ((2 : Int32) * a5)))), a7, a8, a9], [], sM Ln I L c s)) rfl (fun hc => ?_) (fun hc => ?_) (by omega)
      · have h := h.1 hc
        obtain ⟨hc, h⟩ := h
        refine dd_Rn.chk 11 (c := 0 ≤ a3 - 1 ∧ tn (a3 - 1) < 400) (A := (115, [.ref 148, .int a1, .int a2, .int a3, .int a4, .int a5, .int (I 149 (tn ((571 : Int32) + ((2 : Int32) * a5)))), a7, a8, a9], [.int (I 156 (tn (a3 - 1))), .int 1, .int (a3 - 1), .ref 156], sM Ln I L c s)) rfl hc ?_ (by omega)
        obtain ⟨hc, h⟩ := h
        refine dd_Rn.chk 1 (c := 0 ≤ a3 - 1 ∧ tn (a3 - 1) < 400) (A := (117, [.ref 148, .int a1, .int a2, .int a3, .int a4, .int a5, .int (I 149 (tn ((571 : Int32) + ((2 : Int32) * a5)))), a7, a8, a9], [], sM Ln (dd_u I 156 (upd (I 156) (tn (a3 - 1)) ((1 : Int32) - (I 156 (tn (a3 - 1)))))) L c s)) rfl hc ?_ (by omega)
        exact dd_Rn.go 1 (cf' := (257, [.ref 148, .int a1, .int a2, .int a3, .int a4, .int a5, .int (I 149 (tn ((571 : Int32) + ((2 : Int32) * a5)))), a7, a8, a9], [], sM Ln (dd_u I 156 (upd (I 156) (tn (a3 - 1)) ((1 : Int32) - (I 156 (tn (a3 - 1)))))) L c s)) rfl h (by omega)
      · have h := h.2 hc
        obtain ⟨hc, h⟩ := h
        refine dd_Rn.chk 6 (c := 0 ≤ (a3 + (-1)) - 1 ∧ tn ((a3 + (-1)) - 1) < 400) (A := (131, [.ref 148, .int a1, .int a2, .int (a3 + (-1)), .int a4, .int a5, .int (I 149 (tn ((571 : Int32) + ((2 : Int32) * a5)))), a7, a8, a9], [.int (I 156 (tn ((a3 + (-1)) - 1)))], sM Ln I L c s)) rfl hc ?_ (by omega)
        obtain ⟨hc, h⟩ := h
        refine dd_Rn.chk 4 (c := 0 ≤ a3 + (-1) ∧ tn (a3 + (-1)) < 400) (A := (139, [.ref 148, .int a1, .int a2, .int (a3 + (-1)), .int a4, .int a5, .int (I 149 (tn ((571 : Int32) + ((2 : Int32) * a5)))), .int (I 156 (tn ((a3 + (-1)) - 1))), a8, a9], [.int (I 156 (tn (a3 + (-1))))], sM Ln I L c s)) rfl hc ?_ (by omega)
        refine dd_Rn.ite 3 (c := I 149 (tn ((571 : Int32) + ((2 : Int32) * a5))) = 12) (A := (148, [.ref 148, .int a1, .int a2, .int (a3 + (-1)), .int a4, .int a5, .int (I 149 (tn ((571 : Int32) + ((2 : Int32) * a5)))), .int (I 156 (tn ((a3 + (-1)) - 1))), .int (I 156 (tn (a3 + (-1)))), a9], [], sM Ln I L c s)) (B := (163, [.ref 148, .int a1, .int a2, .int (a3 + (-1)), .int a4, .int a5, .int (I 149 (tn ((571 : Int32) + ((2 : Int32) * a5)))), .int (I 156 (tn ((a3 + (-1)) - 1))), .int (I 156 (tn (a3 + (-1)))), a9], [], sM Ln I L c s)) rfl (fun hc => ?_) (fun hc => ?_) (by omega)
        · have h := h.1 hc
          refine dd_Rn.ite 2 (c := I 156 (tn (a3 + (-1))) ≤ I 156 (tn ((a3 + (-1)) - 1))) (A := (159, [.ref 148, .int a1, .int a2, .int (a3 + (-1)), .int a4, .int a5, .int (I 149 (tn ((571 : Int32) + ((2 : Int32) * a5)))), .int (I 156 (tn ((a3 + (-1)) - 1))), .int (I 156 (tn (a3 + (-1)))), a9], [], sM Ln I L c s)) (B := (155, [.ref 148, .int a1, .int a2, .int (a3 + (-1)), .int a4, .int a5, .int (I 149 (tn ((571 : Int32) + ((2 : Int32) * a5)))), .int (I 156 (tn ((a3 + (-1)) - 1))), .int (I 156 (tn (a3 + (-1)))), a9], [], sM Ln I L c s)) rfl (fun hc => ?_) (fun hc => ?_) (by omega)
          · have h := h.1 hc
            exact dd_Rn.go 2 (cf' := (222, [.ref 148, .int a1, .int a2, .int (a3 + (-1)), .int a4, .int a5, .int (I 149 (tn ((571 : Int32) + ((2 : Int32) * a5)))), .int (I 156 (tn ((a3 + (-1)) - 1))), .int (I 156 (tn (a3 + (-1)))), a9], [.int 0], sM Ln I L c s)) rfl h (by omega)
          · have h := h.2 hc
            exact dd_Rn.go 2 (cf' := (222, [.ref 148, .int a1, .int a2, .int (a3 + (-1)), .int a4, .int a5, .int (I 149 (tn ((571 : Int32) + ((2 : Int32) * a5)))), .int (I 156 (tn ((a3 + (-1)) - 1))), .int (I 156 (tn (a3 + (-1)))), a9], [.int 1], sM Ln I L c s)) rfl h (by omega)
        · have h := h.2 hc
          refine dd_Rn.ite 2 (c := I 149 (tn ((571 : Int32) + ((2 : Int32) * a5))) = 13) (A := (170, [.ref 148, .int a1, .int a2, .int (a3 + (-1)), .int a4, .int a5, .int (I 149 (tn ((571 : Int32) + ((2 : Int32) * a5)))), .int (I 156 (tn ((a3 + (-1)) - 1))), .int (I 156 (tn (a3 + (-1)))), a9], [], sM Ln I L c s)) (B := (185, [.ref 148, .int a1, .int a2, .int (a3 + (-1)), .int a4, .int a5, .int (I 149 (tn ((571 : Int32) + ((2 : Int32) * a5)))), .int (I 156 (tn ((a3 + (-1)) - 1))), .int (I 156 (tn (a3 + (-1)))), a9], [], sM Ln I L c s)) rfl (fun hc => ?_) (fun hc => ?_) (by omega)
          · have h := h.1 hc
            refine dd_Rn.ite 2 (c := I 156 (tn ((a3 + (-1)) - 1)) ≤ I 156 (tn (a3 + (-1)))) (A := (181, [.ref 148, .int a1, .int a2, .int (a3 + (-1)), .int a4, .int a5, .int (I 149 (tn ((571 : Int32) + ((2 : Int32) * a5)))), .int (I 156 (tn ((a3 + (-1)) - 1))), .int (I 156 (tn (a3 + (-1)))), a9], [], sM Ln I L c s)) (B := (177, [.ref 148, .int a1, .int a2, .int (a3 + (-1)), .int a4, .int a5, .int (I 149 (tn ((571 : Int32) + ((2 : Int32) * a5)))), .int (I 156 (tn ((a3 + (-1)) - 1))), .int (I 156 (tn (a3 + (-1)))), a9], [], sM Ln I L c s)) rfl (fun hc => ?_) (fun hc => ?_) (by omega)
            · have h := h.1 hc
              exact dd_Rn.go 2 (cf' := (222, [.ref 148, .int a1, .int a2, .int (a3 + (-1)), .int a4, .int a5, .int (I 149 (tn ((571 : Int32) + ((2 : Int32) * a5)))), .int (I 156 (tn ((a3 + (-1)) - 1))), .int (I 156 (tn (a3 + (-1)))), a9], [.int 0], sM Ln I L c s)) rfl h (by omega)
            · have h := h.2 hc
              exact dd_Rn.go 2 (cf' := (222, [.ref 148, .int a1, .int a2, .int (a3 + (-1)), .int a4, .int a5, .int (I 149 (tn ((571 : Int32) + ((2 : Int32) * a5)))), .int (I 156 (tn ((a3 + (-1)) - 1))), .int (I 156 (tn (a3 + (-1)))), a9], [.int 1], sM Ln I L c s)) rfl h (by omega)
          · have h := h.2 hc
            refine dd_Rn.ite 2 (c := I 149 (tn ((571 : Int32) + ((2 : Int32) * a5))) = 15) (A := (192, [.ref 148, .int a1, .int a2, .int (a3 + (-1)), .int a4, .int a5, .int (I 149 (tn ((571 : Int32) + ((2 : Int32) * a5)))), .int (I 156 (tn ((a3 + (-1)) - 1))), .int (I 156 (tn (a3 + (-1)))), a9], [], sM Ln I L c s)) (B := (209, [.ref 148, .int a1, .int a2, .int (a3 + (-1)), .int a4, .int a5, .int (I 149 (tn ((571 : Int32) + ((2 : Int32) * a5)))), .int (I 156 (tn ((a3 + (-1)) - 1))), .int (I 156 (tn (a3 + (-1)))), a9], [], sM Ln I L c s)) rfl (fun hc => ?_) (fun hc => ?_) (by omega)
            · have h := h.1 hc
              refine dd_Rn.ite 4 (c := (I 156 (tn ((a3 + (-1)) - 1))) + (I 156 (tn (a3 + (-1)))) = 2) (A := (201, [.ref 148, .int a1, .int a2, .int (a3 + (-1)), .int a4, .int a5, .int (I 149 (tn ((571 : Int32) + ((2 : Int32) * a5)))), .int (I 156 (tn ((a3 + (-1)) - 1))), .int (I 156 (tn (a3 + (-1)))), a9], [], sM Ln I L c s)) (B := (205, [.ref 148, .int a1, .int a2, .int (a3 + (-1)), .int a4, .int a5, .int (I 149 (tn ((571 : Int32) + ((2 : Int32) * a5)))), .int (I 156 (tn ((a3 + (-1)) - 1))), .int (I 156 (tn (a3 + (-1)))), a9], [], sM Ln I L c s)) rfl (fun hc => ?_) (fun hc => ?_) (by omega)
              · have h := h.1 hc
                exact dd_Rn.go 2 (cf' := (222, [.ref 148, .int a1, .int a2, .int (a3 + (-1)), .int a4, .int a5, .int (I 149 (tn ((571 : Int32) + ((2 : Int32) * a5)))), .int (I 156 (tn ((a3 + (-1)) - 1))), .int (I 156 (tn (a3 + (-1)))), a9], [.int 1], sM Ln I L c s)) rfl h (by omega)
              · have h := h.2 hc
                exact dd_Rn.go 2 (cf' := (222, [.ref 148, .int a1, .int a2, .int (a3 + (-1)), .int a4, .int a5, .int (I 149 (tn ((571 : Int32) + ((2 : Int32) * a5)))), .int (I 156 (tn ((a3 + (-1)) - 1))), .int (I 156 (tn (a3 + (-1)))), a9], [.int 0], sM Ln I L c s)) rfl h (by omega)
            · have h := h.2 hc
              refine dd_Rn.ite 3 (c := (I 156 (tn ((a3 + (-1)) - 1))) + (I 156 (tn (a3 + (-1)))) ≤ 0) (A := (221, [.ref 148, .int a1, .int a2, .int (a3 + (-1)), .int a4, .int a5, .int (I 149 (tn ((571 : Int32) + ((2 : Int32) * a5)))), .int (I 156 (tn ((a3 + (-1)) - 1))), .int (I 156 (tn (a3 + (-1)))), a9], [], sM Ln I L c s)) (B := (217, [.ref 148, .int a1, .int a2, .int (a3 + (-1)), .int a4, .int a5, .int (I 149 (tn ((571 : Int32) + ((2 : Int32) * a5)))), .int (I 156 (tn ((a3 + (-1)) - 1))), .int (I 156 (tn (a3 + (-1)))), a9], [], sM Ln I L c s)) rfl (fun hc => ?_) (fun hc => ?_) (by omega)
              · have h := h.1 hc
                exact dd_Rn.go 1 (cf' := (222, [.ref 148, .int a1, .int a2, .int (a3 + (-1)), .int a4, .int a5, .int (I 149 (tn ((571 : Int32) + ((2 : Int32) * a5)))), .int (I 156 (tn ((a3 + (-1)) - 1))), .int (I 156 (tn (a3 + (-1)))), a9], [.int 0], sM Ln I L c s)) rfl h (by omega)
              · have h := h.2 hc
                exact dd_Rn.go 2 (cf' := (222, [.ref 148, .int a1, .int a2, .int (a3 + (-1)), .int a4, .int a5, .int (I 149 (tn ((571 : Int32) + ((2 : Int32) * a5)))), .int (I 156 (tn ((a3 + (-1)) - 1))), .int (I 156 (tn (a3 + (-1)))), a9], [.int 1], sM Ln I L c s)) rfl h (by omega)
    · have h := h.2 hc
      obtain ⟨hc, h⟩ := h
      refine dd_Rn.chk 14 (c := 0 ≤ ((571 : Int32) + ((2 : Int32) * a5)) + 1 ∧ tn (((571 : Int32) + ((2 : Int32) * a5)) + 1) < 2220) (A := (81, [.ref 148, .int a1, .int a2, .int a3, .int a4, .int a5, .int (I 149 (tn ((571 : Int32) + ((2 : Int32) * a5)))), a7, a8, a9], [.int (I 149 (tn (((571 : Int32) + ((2 : Int32) * a5)) + 1))), .int (I 149 (tn ((571 : Int32) + ((2 : Int32) * a5)))), .ref 148, .int a3, .ref 156], sM Ln I L c s)) rfl hc ?_ (by omega)
      refine dd_Rn.cI 1 (pc := 82) (ls := [.ref 148, .int a1, .int a2, .int a3, .int a4, .int a5, .int (I 149 (tn ((571 : Int32) + ((2 : Int32) * a5)))), a7, a8, a9]) (st := [.int a2, .int (I 149 (tn (((571 : Int32) + ((2 : Int32) * a5)) + 1))), .int (I 149 (tn ((571 : Int32) + ((2 : Int32) * a5)))), .ref 148, .int a3, .ref 156]) (x := m_X11_factOf) (as := [.ref 148, .int (I 149 (tn ((571 : Int32) + ((2 : Int32) * a5)))), .int (I 149 (tn (((571 : Int32) + ((2 : Int32) * a5)) + 1))), .int a2]) (rest := [.int a3, .ref 156]) rfl rfl rfl rfl h ?_
      intro x1 I1 L1 h
      show dd_Rn (e + 16) m_X11_holdsLine (85, [.ref 148, .int a1, .int a2, .int a3, .int a4, .int a5, .int (I 149 (tn ((571 : Int32) + ((2 : Int32) * a5)))), a7, a8, a9], [.int x1, .int a3, .ref 156], sM Ln I1 L1 c s) _
      obtain ⟨hc, h⟩ := h
      refine dd_Rn.chk 0 (c := 0 ≤ a3 ∧ tn a3 < 400) (A := (86, [.ref 148, .int a1, .int a2, .int a3, .int a4, .int a5, .int (I 149 (tn ((571 : Int32) + ((2 : Int32) * a5)))), a7, a8, a9], [], sM Ln (dd_u I1 156 (upd (I1 156) (tn a3) x1)) L1 c s)) rfl hc ?_ (by omega)
      exact dd_Rn.go 2 (cf' := (257, [.ref 148, .int a1, .int a2, .int (a3 + 1), .int a4, .int a5, .int (I 149 (tn ((571 : Int32) + ((2 : Int32) * a5)))), a7, a8, a9], [], sM Ln (dd_u I1 156 (upd (I1 156) (tn a3) x1)) L1 c s)) rfl h (by omega)

theorem w_X11_holdsLine_222 {Ln d c s : Nat} {I : Nat → Nat → Int32} {L : Nat → Nat → Int64} {Q : dd_O → Prop} {a1 a2 a3 a4 a5 a6 a7 a8 b0 : Int32} {a9 : Value} (hd : 28 ≤ d) (h : ((a6 = 11 → dd_Rn d m_X11_holdsLine (256, [.ref 148, .int a1, .int a2, .int a3, .int a4, .int a5, .int a6, .int a7, .int a8, .int b0], [.int (a7 + a8), .int (a3 - 1), .ref 156], sM Ln I L c s) Q) ∧ (¬ (a6 = 11) → ((b0 = 0 → dd_Rn d m_X11_holdsLine (256, [.ref 148, .int a1, .int a2, .int a3, .int a4, .int a5, .int a6, .int a7, .int a8, .int b0], [.int 0, .int (a3 - 1), .ref 156], sM Ln I L c s) Q) ∧ (¬ (b0 = 0) → dd_Rn d m_X11_holdsLine (256, [.ref 148, .int a1, .int a2, .int a3, .int a4, .int a5, .int a6, .int a7, .int a8, .int b0], [.int 1, .int (a3 - 1), .ref 156], sM Ln I L c s) Q))))) : dd_Rn d m_X11_holdsLine (222, [.ref 148, .int a1, .int a2, .int a3, .int a4, .int a5, .int a6, .int a7, .int a8, a9], [.int b0], sM Ln I L c s) Q := by
  obtain ⟨e, rfl⟩ : ∃ e, d = e + 16 := ⟨d - 16, by omega⟩
  refine dd_Rn.ite 8 (c := a6 = 11) (A := (238, [.ref 148, .int a1, .int a2, .int a3, .int a4, .int a5, .int a6, .int a7, .int a8, .int b0], [.int (a3 - 1), .ref 156], sM Ln I L c s)) (B := (246, [.ref 148, .int a1, .int a2, .int a3, .int a4, .int a5, .int a6, .int a7, .int a8, .int b0], [.int (a3 - 1), .ref 156], sM Ln I L c s)) rfl (fun hc => ?_) (fun hc => ?_) (by omega)
  · have h := h.1 hc
    exact dd_Rn.go 4 (cf' := (256, [.ref 148, .int a1, .int a2, .int a3, .int a4, .int a5, .int a6, .int a7, .int a8, .int b0], [.int (a7 + a8), .int (a3 - 1), .ref 156], sM Ln I L c s)) rfl h (by omega)
  · have h := h.2 hc
    refine dd_Rn.ite 1 (c := b0 = 0) (A := (255, [.ref 148, .int a1, .int a2, .int a3, .int a4, .int a5, .int a6, .int a7, .int a8, .int b0], [.int (a3 - 1), .ref 156], sM Ln I L c s)) (B := (251, [.ref 148, .int a1, .int a2, .int a3, .int a4, .int a5, .int a6, .int a7, .int a8, .int b0], [.int (a3 - 1), .ref 156], sM Ln I L c s)) rfl (fun hc => ?_) (fun hc => ?_) (by omega)
    · have h := h.1 hc
      exact dd_Rn.go 1 (cf' := (256, [.ref 148, .int a1, .int a2, .int a3, .int a4, .int a5, .int a6, .int a7, .int a8, .int b0], [.int 0, .int (a3 - 1), .ref 156], sM Ln I L c s)) rfl h (by omega)
    · have h := h.2 hc
      exact dd_Rn.go 2 (cf' := (256, [.ref 148, .int a1, .int a2, .int a3, .int a4, .int a5, .int a6, .int a7, .int a8, .int b0], [.int 1, .int (a3 - 1), .ref 156], sM Ln I L c s)) rfl h (by omega)

theorem w_X11_holdsLine_256 {Ln d c s : Nat} {I : Nat → Nat → Int32} {L : Nat → Nat → Int64} {Q : dd_O → Prop} {a1 a2 a3 a4 a5 a6 a7 a8 a9 b1 b2 : Int32} (hd : 28 ≤ d) (h : ((0 ≤ b1 ∧ tn b1 < 400) ∧ dd_Rn d m_X11_holdsLine (257, [.ref 148, .int a1, .int a2, .int a3, .int a4, .int a5, .int a6, .int a7, .int a8, .int a9], [], sM Ln (dd_u I 156 (upd (I 156) (tn b1) b2)) L c s) Q)) : dd_Rn d m_X11_holdsLine (256, [.ref 148, .int a1, .int a2, .int a3, .int a4, .int a5, .int a6, .int a7, .int a8, .int a9], [.int b2, .int b1, .ref 156], sM Ln I L c s) Q := by
  obtain ⟨e, rfl⟩ : ∃ e, d = e + 16 := ⟨d - 16, by omega⟩
  obtain ⟨hc, h⟩ := h
  refine dd_Rn.chk 0 (c := 0 ≤ b1 ∧ tn b1 < 400) (A := (257, [.ref 148, .int a1, .int a2, .int a3, .int a4, .int a5, .int a6, .int a7, .int a8, .int a9], [], sM Ln (dd_u I 156 (upd (I 156) (tn b1) b2)) L c s)) rfl hc ?_ (by omega)
  exact dd_Rn.go 0 (cf' := (257, [.ref 148, .int a1, .int a2, .int a3, .int a4, .int a5, .int a6, .int a7, .int a8, .int a9], [], sM Ln (dd_u I 156 (upd (I 156) (tn b1) b2)) L c s)) rfl h (by omega)

theorem w_X11_holdsLine_257 {Ln d c s : Nat} {I : Nat → Nat → Int32} {L : Nat → Nat → Int64} {Q : dd_O → Prop} {a1 a2 a3 a4 a5 a6 : Int32} {a7 a8 a9 : Value} (hd : 28 ≤ d) (h : dd_Rn d m_X11_holdsLine (22, [.ref 148, .int a1, .int a2, .int a3, .int a4, .int (a5 + 1), .int a6, a7, a8, a9], [], sM Ln I L c s) Q) : dd_Rn d m_X11_holdsLine (257, [.ref 148, .int a1, .int a2, .int a3, .int a4, .int a5, .int a6, a7, a8, a9], [], sM Ln I L c s) Q := by
  obtain ⟨e, rfl⟩ : ∃ e, d = e + 16 := ⟨d - 16, by omega⟩
  exact dd_Rn.go 2 (cf' := (22, [.ref 148, .int a1, .int a2, .int a3, .int a4, .int (a5 + 1), .int a6, a7, a8, a9], [], sM Ln I L c s)) rfl h (by omega)

theorem w_X11_sumOf_0 {Ln d c s : Nat} {I : Nat → Nat → Int32} {L : Nat → Nat → Int64} {Q : dd_O → Prop} {a1 a2 : Int32} (hd : 28 ≤ d) (h : dd_Rn d m_X11_sumOf (5, [.ref 148, .int a1, .int a2, .int 0, .int 0], [], sM Ln I L c s) Q) : dd_Ev d m_X11_sumOf [.ref 148, .int a1, .int a2] (sM Ln I L c s) Q := by
  obtain ⟨e, rfl⟩ : ∃ e, d = e + 16 := ⟨d - 16, by omega⟩
  show dd_Rn (e + 16) m_X11_sumOf (0, [.ref 148, .int a1, .int a2, .null, .null], [], sM Ln I L c s) Q
  exact dd_Rn.go 4 (cf' := (5, [.ref 148, .int a1, .int a2, .int 0, .int 0], [], sM Ln I L c s)) rfl h (by omega)

theorem w_X11_sumOf_5 {Ln d c s : Nat} {I : Nat → Nat → Int32} {L : Nat → Nat → Int64} {Q : dd_O → Prop} {a1 a2 a3 a4 : Int32} (hd : 28 ≤ d) (h : ((I 149 3 = 1 → ((I 149 522 ≤ a4 → Q (none, .int a3, sM Ln I L c s)) ∧ (¬ (I 149 522 ≤ a4) → ((0 ≤ (523 : Int32) + ((4 : Int32) * a4) ∧ tn ((523 : Int32) + ((4 : Int32) * a4)) < 2220) ∧ ((I 149 (tn ((523 : Int32) + ((4 : Int32) * a4))) = a1 → dd_Ev (d - 1) m_X11_holdsLine [.ref 148, .int a4, .int a2] (sM Ln I L c s) (dd_RI Ln c s (fun x1 I1 L1 => ((x1 = 0 → dd_Rn d m_X11_sumOf (5, [.ref 148, .int a1, .int a2, .int a3, .int (a4 + 1)], [], sM Ln I1 L1 c s) Q) ∧ (¬ (x1 = 0) → ((0 ≤ ((523 : Int32) + ((4 : Int32) * a4)) + 1 ∧ tn (((523 : Int32) + ((4 : Int32) * a4)) + 1) < 2220) ∧ dd_Rn d m_X11_sumOf (5, [.ref 148, .int a1, .int a2, .int (a3 + (I1 149 (tn (((523 : Int32) + ((4 : Int32) * a4)) + 1)))), .int (a4 + 1)], [], sM Ln I1 L1 c s) Q)))))) ∧ (¬ (I 149 (tn ((523 : Int32) + ((4 : Int32) * a4))) = a1) → dd_Rn d m_X11_sumOf (5, [.ref 148, .int a1, .int a2, .int a3, .int (a4 + 1)], [], sM Ln I L c s) Q)))))) ∧ (¬ (I 149 3 = 1) → Q (none, .int a3, sM Ln I L c s)))) : dd_Rn d m_X11_sumOf (5, [.ref 148, .int a1, .int a2, .int a3, .int a4], [], sM Ln I L c s) Q := by
  obtain ⟨e, rfl⟩ : ∃ e, d = e + 16 := ⟨d - 16, by omega⟩
  refine dd_Rn.ite 5 (c := I 149 3 = 1) (A := (15, [.ref 148, .int a1, .int a2, .int a3, .int a4], [], sM Ln I L c s)) (B := (79, [.ref 148, .int a1, .int a2, .int a3, .int a4], [], sM Ln I L c s)) rfl (fun hc => ?_) (fun hc => ?_) (by omega)
  · have h := h.1 hc
    refine dd_Rn.ite 5 (c := I 149 522 ≤ a4) (A := (79, [.ref 148, .int a1, .int a2, .int a3, .int a4], [], sM Ln I L c s)) (B := (28, [.ref 148, .int a1, .int a2, .int a3, .int a4], [], sM Ln I L c s)) rfl (fun hc => ?_) (fun hc => ?_) (by omega)
    · have h := h.1 hc
      exact dd_Rn.retK 1 (pc := 80) (ls := [.ref 148, .int a1, .int a2, .int a3, .int a4]) (st := [.int a3]) (M := sM Ln I L c s) (o := (none, .int a3, sM Ln I L c s)) rfl rfl h (by omega)
    · have h := h.2 hc
      obtain ⟨hc, h⟩ := h
      refine dd_Rn.chk 7 (c := 0 ≤ (523 : Int32) + ((4 : Int32) * a4) ∧ tn ((523 : Int32) + ((4 : Int32) * a4)) < 2220) (A := (41, [.ref 148, .int a1, .int a2, .int a3, .int a4], [.int (I 149 (tn ((523 : Int32) + ((4 : Int32) * a4))))], sM Ln I L c s)) rfl hc ?_ (by omega)
      refine dd_Rn.ite 1 (c := I 149 (tn ((523 : Int32) + ((4 : Int32) * a4))) = a1) (A := (45, [.ref 148, .int a1, .int a2, .int a3, .int a4], [], sM Ln I L c s)) (B := (73, [.ref 148, .int a1, .int a2, .int a3, .int a4], [], sM Ln I L c s)) rfl (fun hc => ?_) (fun hc => ?_) (by omega)
      · have h := h.1 hc
        refine dd_Rn.cI 3 (pc := 49) (ls := [.ref 148, .int a1, .int a2, .int a3, .int a4]) (st := [.int a2, .int a4, .ref 148]) (x := m_X11_holdsLine) (as := [.ref 148, .int a4, .int a2]) (rest := []) rfl rfl rfl rfl h ?_
        intro x1 I1 L1 h
        show dd_Rn (e + 16) m_X11_sumOf (52, [.ref 148, .int a1, .int a2, .int a3, .int a4], [.int x1], sM Ln I1 L1 c s) _
        refine dd_Rn.ite 0 (c := x1 = 0) (A := (73, [.ref 148, .int a1, .int a2, .int a3, .int a4], [], sM Ln I1 L1 c s)) (B := (55, [.ref 148, .int a1, .int a2, .int a3, .int a4], [], sM Ln I1 L1 c s)) rfl (fun hc => ?_) (fun hc => ?_) (by omega)
        · have h := h.1 hc
          exact dd_Rn.go 2 (cf' := (5, [.ref 148, .int a1, .int a2, .int a3, .int (a4 + 1)], [], sM Ln I1 L1 c s)) rfl h (by omega)
        · have h := h.2 hc
          obtain ⟨hc, h⟩ := h
          refine dd_Rn.chk 10 (c := 0 ≤ ((523 : Int32) + ((4 : Int32) * a4)) + 1 ∧ tn (((523 : Int32) + ((4 : Int32) * a4)) + 1) < 2220) (A := (71, [.ref 148, .int a1, .int a2, .int a3, .int a4], [.int (I1 149 (tn (((523 : Int32) + ((4 : Int32) * a4)) + 1))), .int a3], sM Ln I1 L1 c s)) rfl hc ?_ (by omega)
          exact dd_Rn.go 4 (cf' := (5, [.ref 148, .int a1, .int a2, .int (a3 + (I1 149 (tn (((523 : Int32) + ((4 : Int32) * a4)) + 1)))), .int (a4 + 1)], [], sM Ln I1 L1 c s)) rfl h (by omega)
      · have h := h.2 hc
        exact dd_Rn.go 2 (cf' := (5, [.ref 148, .int a1, .int a2, .int a3, .int (a4 + 1)], [], sM Ln I L c s)) rfl h (by omega)
  · have h := h.2 hc
    exact dd_Rn.retK 1 (pc := 80) (ls := [.ref 148, .int a1, .int a2, .int a3, .int a4]) (st := [.int a3]) (M := sM Ln I L c s) (o := (none, .int a3, sM Ln I L c s)) rfl rfl h (by omega)

theorem w_X11_hearsBy_0 {Ln d c s : Nat} {I : Nat → Nat → Int32} {L : Nat → Nat → Int64} {Q : dd_O → Prop} {a1 a2 : Int32} (hd : 28 ≤ d) (h : ((0 ≤ ((187 : Int32) + ((5 : Int32) * a1)) + 0 ∧ tn (((187 : Int32) + ((5 : Int32) * a1)) + 0) < 2220) ∧ dd_Ev (d - 1) m_X11_nearOf [.ref 148, .int (I 149 (tn (((187 : Int32) + ((5 : Int32) * a1)) + 0)))] (sM Ln (dd_u I 148 (upd (I 148) 18 a2)) L c s) (dd_RI Ln c s (fun x1 I1 L1 => ((0 ≤ ((187 : Int32) + ((5 : Int32) * a1)) + 2 ∧ tn (((187 : Int32) + ((5 : Int32) * a1)) + 2) < 2220) ∧ dd_Ev (d - 1) m_X11_sumOf [.ref 148, .int 0, .int a1] (sM Ln I1 L1 c s) (dd_RI Ln c s (fun x2 I2 L2 => ((0 ≤ (75 : Int32) + (I 149 (tn (((187 : Int32) + ((5 : Int32) * a1)) + 0))) ∧ tn ((75 : Int32) + (I 149 (tn (((187 : Int32) + ((5 : Int32) * a1)) + 0)))) < 2220) ∧ dd_Ev (d - 1) m_X11_sumOf [.ref 148, .int 1, .int a1] (sM Ln I2 L2 c s) (dd_RI Ln c s (fun x3 I3 L3 => ((((((I1 149 (tn (((187 : Int32) + ((5 : Int32) * a1)) + 2))) + (I1 149 5)) + x2) - (I2 149 (tn ((75 : Int32) + (I 149 (tn (((187 : Int32) + ((5 : Int32) * a1)) + 0))))))) - x3 < x1 → Q (none, .int 0, sM Ln I3 L3 c s)) ∧ (¬ (((((I1 149 (tn (((187 : Int32) + ((5 : Int32) * a1)) + 2))) + (I1 149 5)) + x2) - (I2 149 (tn ((75 : Int32) + (I 149 (tn (((187 : Int32) + ((5 : Int32) * a1)) + 0))))))) - x3 < x1) → Q (none, .int 1, sM Ln I3 L3 c s))))))))))))) : dd_Ev d m_X11_hearsBy [.ref 148, .int a1, .int a2] (sM Ln I L c s) Q := by
  obtain ⟨e, rfl⟩ : ∃ e, d = e + 16 := ⟨d - 16, by omega⟩
  show dd_Rn (e + 16) m_X11_hearsBy (0, [.ref 148, .int a1, .int a2, .null], [], sM Ln I L c s) Q
  refine dd_Rn.sub 6 (pc := 8) (ls := [.ref 148, .int a1, .int a2, .null]) (st := [.int 0, .int a1, .ref 148]) (M := sM Ln (dd_u I 148 (upd (I 148) 18 a2)) L c s) (x := m_X11_of) (as := [.ref 148, .int a1, .int 0]) (rest := []) rfl rfl rfl rfl ?_
  show dd_Rn (e + 15) m_X11_of (0, [.ref 148, .int a1, .int 0], [], sM Ln (dd_u I 148 (upd (I 148) 18 a2)) L c s) _
  refine dd_Rn.sub 4 (pc := 6) (ls := [.ref 148, .int a1, .int 0]) (st := [.int 0, .int a1, .ref 149]) (M := sM Ln (dd_u I 148 (upd (I 148) 18 a2)) L c s) (x := m_X11_at) (as := [.int a1, .int 0]) (rest := [.ref 149]) rfl rfl rfl rfl ?_
  show dd_Rn (e + 14) m_X11_at (0, [.int a1, .int 0], [], sM Ln (dd_u I 148 (upd (I 148) 18 a2)) L c s) _
  refine dd_Rn.retK 7 (pc := 9) (ls := [.int a1, .int 0]) (st := [.int (((187 : Int32) + ((5 : Int32) * a1)) + 0)]) (M := sM Ln (dd_u I 148 (upd (I 148) 18 a2)) L c s) (o := (none, .int (((187 : Int32) + ((5 : Int32) * a1)) + 0), sM Ln (dd_u I 148 (upd (I 148) 18 a2)) L c s)) rfl rfl (dd_Af.ret rfl ?_) (by omega)
  show dd_Rn (e + 15) m_X11_of (9, [.ref 148, .int a1, .int 0], [.int (((187 : Int32) + ((5 : Int32) * a1)) + 0), .ref 149], sM Ln (dd_u I 148 (upd (I 148) 18 a2)) L c s) _
  obtain ⟨hc, h⟩ := h
  refine dd_Rn.chk 0 (c := 0 ≤ ((187 : Int32) + ((5 : Int32) * a1)) + 0 ∧ tn (((187 : Int32) + ((5 : Int32) * a1)) + 0) < 2220) (A := (10, [.ref 148, .int a1, .int 0], [.int (I 149 (tn (((187 : Int32) + ((5 : Int32) * a1)) + 0)))], sM Ln (dd_u I 148 (upd (I 148) 18 a2)) L c s)) rfl hc ?_ (by omega)
  refine dd_Rn.retK 0 (pc := 10) (ls := [.ref 148, .int a1, .int 0]) (st := [.int (I 149 (tn (((187 : Int32) + ((5 : Int32) * a1)) + 0)))]) (M := sM Ln (dd_u I 148 (upd (I 148) 18 a2)) L c s) (o := (none, .int (I 149 (tn (((187 : Int32) + ((5 : Int32) * a1)) + 0))), sM Ln (dd_u I 148 (upd (I 148) 18 a2)) L c s)) rfl rfl (dd_Af.ret rfl ?_) (by omega)
  show dd_Rn (e + 16) m_X11_hearsBy (11, [.ref 148, .int a1, .int a2, .null], [.int (I 149 (tn (((187 : Int32) + ((5 : Int32) * a1)) + 0)))], sM Ln (dd_u I 148 (upd (I 148) 18 a2)) L c s) _
  refine dd_Rn.cI 3 (pc := 14) (ls := [.ref 148, .int a1, .int a2, .int (I 149 (tn (((187 : Int32) + ((5 : Int32) * a1)) + 0)))]) (st := [.int (I 149 (tn (((187 : Int32) + ((5 : Int32) * a1)) + 0))), .ref 148]) (x := m_X11_nearOf) (as := [.ref 148, .int (I 149 (tn (((187 : Int32) + ((5 : Int32) * a1)) + 0)))]) (rest := []) rfl rfl rfl rfl h ?_
  intro x1 I1 L1 h
  show dd_Rn (e + 16) m_X11_hearsBy (17, [.ref 148, .int a1, .int a2, .int (I 149 (tn (((187 : Int32) + ((5 : Int32) * a1)) + 0)))], [.int x1], sM Ln I1 L1 c s) _
  refine dd_Rn.sub 3 (pc := 20) (ls := [.ref 148, .int a1, .int a2, .int (I 149 (tn (((187 : Int32) + ((5 : Int32) * a1)) + 0)))]) (st := [.int 2, .int a1, .ref 148, .int x1]) (M := sM Ln I1 L1 c s) (x := m_X11_of) (as := [.ref 148, .int a1, .int 2]) (rest := [.int x1]) rfl rfl rfl rfl ?_
  show dd_Rn (e + 15) m_X11_of (0, [.ref 148, .int a1, .int 2], [], sM Ln I1 L1 c s) _
  refine dd_Rn.sub 4 (pc := 6) (ls := [.ref 148, .int a1, .int 2]) (st := [.int 2, .int a1, .ref 149]) (M := sM Ln I1 L1 c s) (x := m_X11_at) (as := [.int a1, .int 2]) (rest := [.ref 149]) rfl rfl rfl rfl ?_
  show dd_Rn (e + 14) m_X11_at (0, [.int a1, .int 2], [], sM Ln I1 L1 c s) _
  refine dd_Rn.retK 7 (pc := 9) (ls := [.int a1, .int 2]) (st := [.int (((187 : Int32) + ((5 : Int32) * a1)) + 2)]) (M := sM Ln I1 L1 c s) (o := (none, .int (((187 : Int32) + ((5 : Int32) * a1)) + 2), sM Ln I1 L1 c s)) rfl rfl (dd_Af.ret rfl ?_) (by omega)
  show dd_Rn (e + 15) m_X11_of (9, [.ref 148, .int a1, .int 2], [.int (((187 : Int32) + ((5 : Int32) * a1)) + 2), .ref 149], sM Ln I1 L1 c s) _
  obtain ⟨hc, h⟩ := h
  refine dd_Rn.chk 0 (c := 0 ≤ ((187 : Int32) + ((5 : Int32) * a1)) + 2 ∧ tn (((187 : Int32) + ((5 : Int32) * a1)) + 2) < 2220) (A := (10, [.ref 148, .int a1, .int 2], [.int (I1 149 (tn (((187 : Int32) + ((5 : Int32) * a1)) + 2)))], sM Ln I1 L1 c s)) rfl hc ?_ (by omega)
  refine dd_Rn.retK 0 (pc := 10) (ls := [.ref 148, .int a1, .int 2]) (st := [.int (I1 149 (tn (((187 : Int32) + ((5 : Int32) * a1)) + 2)))]) (M := sM Ln I1 L1 c s) (o := (none, .int (I1 149 (tn (((187 : Int32) + ((5 : Int32) * a1)) + 2))), sM Ln I1 L1 c s)) rfl rfl (dd_Af.ret rfl ?_) (by omega)
  show dd_Rn (e + 16) m_X11_hearsBy (23, [.ref 148, .int a1, .int a2, .int (I 149 (tn (((187 : Int32) + ((5 : Int32) * a1)) + 0)))], [.int (I1 149 (tn (((187 : Int32) + ((5 : Int32) * a1)) + 2))), .int x1], sM Ln I1 L1 c s) _
  refine dd_Rn.cI 8 (pc := 33) (ls := [.ref 148, .int a1, .int a2, .int (I 149 (tn (((187 : Int32) + ((5 : Int32) * a1)) + 0)))]) (st := [.int a1, .int 0, .ref 148, .int ((I1 149 (tn (((187 : Int32) + ((5 : Int32) * a1)) + 2))) + (I1 149 5)), .int x1]) (x := m_X11_sumOf) (as := [.ref 148, .int 0, .int a1]) (rest := [.int ((I1 149 (tn (((187 : Int32) + ((5 : Int32) * a1)) + 2))) + (I1 149 5)), .int x1]) rfl rfl rfl rfl h ?_
  intro x2 I2 L2 h
  show dd_Rn (e + 16) m_X11_hearsBy (36, [.ref 148, .int a1, .int a2, .int (I 149 (tn (((187 : Int32) + ((5 : Int32) * a1)) + 0)))], [.int x2, .int ((I1 149 (tn (((187 : Int32) + ((5 : Int32) * a1)) + 2))) + (I1 149 5)), .int x1], sM Ln I2 L2 c s) _
  obtain ⟨hc, h⟩ := h
  refine dd_Rn.chk 6 (c := 0 ≤ (75 : Int32) + (I 149 (tn (((187 : Int32) + ((5 : Int32) * a1)) + 0))) ∧ tn ((75 : Int32) + (I 149 (tn (((187 : Int32) + ((5 : Int32) * a1)) + 0)))) < 2220) (A := (46, [.ref 148, .int a1, .int a2, .int (I 149 (tn (((187 : Int32) + ((5 : Int32) * a1)) + 0)))], [.int (I2 149 (tn ((75 : Int32) + (I 149 (tn (((187 : Int32) + ((5 : Int32) * a1)) + 0)))))), .int (((I1 149 (tn (((187 : Int32) + ((5 : Int32) * a1)) + 2))) + (I1 149 5)) + x2), .int x1], sM Ln I2 L2 c s)) rfl hc ?_ (by omega)
  refine dd_Rn.cI 4 (pc := 50) (ls := [.ref 148, .int a1, .int a2, .int (I 149 (tn (((187 : Int32) + ((5 : Int32) * a1)) + 0)))]) (st := [.int a1, .int 1, .ref 148, .int ((((I1 149 (tn (((187 : Int32) + ((5 : Int32) * a1)) + 2))) + (I1 149 5)) + x2) - (I2 149 (tn ((75 : Int32) + (I 149 (tn (((187 : Int32) + ((5 : Int32) * a1)) + 0))))))), .int x1]) (x := m_X11_sumOf) (as := [.ref 148, .int 1, .int a1]) (rest := [.int ((((I1 149 (tn (((187 : Int32) + ((5 : Int32) * a1)) + 2))) + (I1 149 5)) + x2) - (I2 149 (tn ((75 : Int32) + (I 149 (tn (((187 : Int32) + ((5 : Int32) * a1)) + 0))))))), .int x1]) rfl rfl rfl rfl h ?_
  intro x3 I3 L3 h
  show dd_Rn (e + 16) m_X11_hearsBy (53, [.ref 148, .int a1, .int a2, .int (I 149 (tn (((187 : Int32) + ((5 : Int32) * a1)) + 0)))], [.int x3, .int ((((I1 149 (tn (((187 : Int32) + ((5 : Int32) * a1)) + 2))) + (I1 149 5)) + x2) - (I2 149 (tn ((75 : Int32) + (I 149 (tn (((187 : Int32) + ((5 : Int32) * a1)) + 0))))))), .int x1], sM Ln I3 L3 c s) _
  refine dd_Rn.ite 1 (c := ((((I1 149 (tn (((187 : Int32) + ((5 : Int32) * a1)) + 2))) + (I1 149 5)) + x2) - (I2 149 (tn ((75 : Int32) + (I 149 (tn (((187 : Int32) + ((5 : Int32) * a1)) + 0))))))) - x3 < x1) (A := (61, [.ref 148, .int a1, .int a2, .int (I 149 (tn (((187 : Int32) + ((5 : Int32) * a1)) + 0)))], [], sM Ln I3 L3 c s)) (B := (57, [.ref 148, .int a1, .int a2, .int (I 149 (tn (((187 : Int32) + ((5 : Int32) * a1)) + 0)))], [], sM Ln I3 L3 c s)) rfl (fun hc => ?_) (fun hc => ?_) (by omega)
  · have h := h.1 hc
    exact dd_Rn.retK 1 (pc := 62) (ls := [.ref 148, .int a1, .int a2, .int (I 149 (tn (((187 : Int32) + ((5 : Int32) * a1)) + 0)))]) (st := [.int 0]) (M := sM Ln I3 L3 c s) (o := (none, .int 0, sM Ln I3 L3 c s)) rfl rfl h (by omega)
  · have h := h.2 hc
    exact dd_Rn.retK 2 (pc := 62) (ls := [.ref 148, .int a1, .int a2, .int (I 149 (tn (((187 : Int32) + ((5 : Int32) * a1)) + 0)))]) (st := [.int 1]) (M := sM Ln I3 L3 c s) (o := (none, .int 1, sM Ln I3 L3 c s)) rfl rfl h (by omega)

theorem w_X11_staysBy_0 {Ln d c s : Nat} {I : Nat → Nat → Int32} {L : Nat → Nat → Int64} {Q : dd_O → Prop} {a1 a2 : Int32} (hd : 28 ≤ d) (h : dd_Ev (d - 1) m_X11_sumOf [.ref 148, .int 2, .int a1] (sM Ln (dd_u I 148 (upd (I 148) 18 a2)) L c s) (dd_RI Ln c s (fun x1 I1 L1 => ((x1 ≤ 0 → Q (none, .int 0, sM Ln I1 L1 c s)) ∧ (¬ (x1 ≤ 0) → Q (none, .int 1, sM Ln I1 L1 c s)))))) : dd_Ev d m_X11_staysBy [.ref 148, .int a1, .int a2] (sM Ln I L c s) Q := by
  obtain ⟨e, rfl⟩ : ∃ e, d = e + 16 := ⟨d - 16, by omega⟩
  show dd_Rn (e + 16) m_X11_staysBy (0, [.ref 148, .int a1, .int a2], [], sM Ln I L c s) Q
  refine dd_Rn.cI 6 (pc := 8) (ls := [.ref 148, .int a1, .int a2]) (st := [.int a1, .int 2, .ref 148]) (x := m_X11_sumOf) (as := [.ref 148, .int 2, .int a1]) (rest := []) rfl rfl rfl rfl h ?_
  intro x1 I1 L1 h
  show dd_Rn (e + 16) m_X11_staysBy (11, [.ref 148, .int a1, .int a2], [.int x1], sM Ln I1 L1 c s) _
  refine dd_Rn.ite 0 (c := x1 ≤ 0) (A := (18, [.ref 148, .int a1, .int a2], [], sM Ln I1 L1 c s)) (B := (14, [.ref 148, .int a1, .int a2], [], sM Ln I1 L1 c s)) rfl (fun hc => ?_) (fun hc => ?_) (by omega)
  · have h := h.1 hc
    exact dd_Rn.retK 1 (pc := 19) (ls := [.ref 148, .int a1, .int a2]) (st := [.int 0]) (M := sM Ln I1 L1 c s) (o := (none, .int 0, sM Ln I1 L1 c s)) rfl rfl h (by omega)
  · have h := h.2 hc
    exact dd_Rn.retK 2 (pc := 19) (ls := [.ref 148, .int a1, .int a2]) (st := [.int 1]) (M := sM Ln I1 L1 c s) (o := (none, .int 1, sM Ln I1 L1 c s)) rfl rfl h (by omega)

theorem w_X11_hears_0 {Ln d c s : Nat} {I : Nat → Nat → Int32} {L : Nat → Nat → Int64} {Q : dd_O → Prop} {a1 : Int32} (hd : 28 ≤ d) (h : ((0 ≤ ((187 : Int32) + ((5 : Int32) * a1)) + 1 ∧ tn (((187 : Int32) + ((5 : Int32) * a1)) + 1) < 2220) ∧ ((0 ≤ ((139 : Int32) + ((8 : Int32) * (I 149 (tn (((187 : Int32) + ((5 : Int32) * a1)) + 1))))) + (I 149 7) ∧ tn (((139 : Int32) + ((8 : Int32) * (I 149 (tn (((187 : Int32) + ((5 : Int32) * a1)) + 1))))) + (I 149 7)) < 2220) ∧ dd_Ev (d - 1) m_X11_hearsBy [.ref 148, .int a1, .int (I 149 (tn (((139 : Int32) + ((8 : Int32) * (I 149 (tn (((187 : Int32) + ((5 : Int32) * a1)) + 1))))) + (I 149 7))))] (sM Ln I L c s) (dd_RI Ln c s (fun x1 I1 L1 => ((x1 = 0 ∨ x1 = 1) ∧ Q (none, .int x1, sM Ln I1 L1 c s))))))) : dd_Ev d m_X11_hears [.ref 148, .int a1] (sM Ln I L c s) Q := by
  obtain ⟨e, rfl⟩ : ∃ e, d = e + 16 := ⟨d - 16, by omega⟩
  show dd_Rn (e + 16) m_X11_hears (0, [.ref 148, .int a1], [], sM Ln I L c s) Q
  refine dd_Rn.sub 4 (pc := 4) (ls := [.ref 148, .int a1]) (st := [.int a1, .ref 148, .int a1, .ref 148]) (M := sM Ln I L c s) (x := m_X11_noteOf) (as := [.ref 148, .int a1]) (rest := [.int a1, .ref 148]) rfl rfl rfl rfl ?_
  show dd_Rn (e + 15) m_X11_noteOf (0, [.ref 148, .int a1], [], sM Ln I L c s) _
  refine dd_Rn.sub 5 (pc := 7) (ls := [.ref 148, .int a1]) (st := [.int 1, .int a1, .ref 148, .ref 149]) (M := sM Ln I L c s) (x := m_X11_of) (as := [.ref 148, .int a1, .int 1]) (rest := [.ref 149]) rfl rfl rfl rfl ?_
  show dd_Rn (e + 14) m_X11_of (0, [.ref 148, .int a1, .int 1], [], sM Ln I L c s) _
  refine dd_Rn.sub 4 (pc := 6) (ls := [.ref 148, .int a1, .int 1]) (st := [.int 1, .int a1, .ref 149]) (M := sM Ln I L c s) (x := m_X11_at) (as := [.int a1, .int 1]) (rest := [.ref 149]) rfl rfl rfl rfl ?_
  show dd_Rn (e + 13) m_X11_at (0, [.int a1, .int 1], [], sM Ln I L c s) _
  refine dd_Rn.retK 7 (pc := 9) (ls := [.int a1, .int 1]) (st := [.int (((187 : Int32) + ((5 : Int32) * a1)) + 1)]) (M := sM Ln I L c s) (o := (none, .int (((187 : Int32) + ((5 : Int32) * a1)) + 1), sM Ln I L c s)) rfl rfl (dd_Af.ret rfl ?_) (by omega)
  show dd_Rn (e + 14) m_X11_of (9, [.ref 148, .int a1, .int 1], [.int (((187 : Int32) + ((5 : Int32) * a1)) + 1), .ref 149], sM Ln I L c s) _
  obtain ⟨hc, h⟩ := h
  refine dd_Rn.chk 0 (c := 0 ≤ ((187 : Int32) + ((5 : Int32) * a1)) + 1 ∧ tn (((187 : Int32) + ((5 : Int32) * a1)) + 1) < 2220) (A := (10, [.ref 148, .int a1, .int 1], [.int (I 149 (tn (((187 : Int32) + ((5 : Int32) * a1)) + 1)))], sM Ln I L c s)) rfl hc ?_ (by omega)
  refine dd_Rn.retK 0 (pc := 10) (ls := [.ref 148, .int a1, .int 1]) (st := [.int (I 149 (tn (((187 : Int32) + ((5 : Int32) * a1)) + 1)))]) (M := sM Ln I L c s) (o := (none, .int (I 149 (tn (((187 : Int32) + ((5 : Int32) * a1)) + 1))), sM Ln I L c s)) rfl rfl (dd_Af.ret rfl ?_) (by omega)
  show dd_Rn (e + 15) m_X11_noteOf (10, [.ref 148, .int a1], [.int (I 149 (tn (((187 : Int32) + ((5 : Int32) * a1)) + 1))), .ref 149], sM Ln I L c s) _
  refine dd_Rn.sub 4 (pc := 17) (ls := [.ref 148, .int a1]) (st := [.int (I 149 7), .int (I 149 (tn (((187 : Int32) + ((5 : Int32) * a1)) + 1))), .ref 149]) (M := sM Ln I L c s) (x := m_X11_noteAt) (as := [.int (I 149 (tn (((187 : Int32) + ((5 : Int32) * a1)) + 1))), .int (I 149 7)]) (rest := [.ref 149]) rfl rfl rfl rfl ?_
  show dd_Rn (e + 14) m_X11_noteAt (0, [.int (I 149 (tn (((187 : Int32) + ((5 : Int32) * a1)) + 1))), .int (I 149 7)], [], sM Ln I L c s) _
  refine dd_Rn.retK 7 (pc := 10) (ls := [.int (I 149 (tn (((187 : Int32) + ((5 : Int32) * a1)) + 1))), .int (I 149 7)]) (st := [.int (((139 : Int32) + ((8 : Int32) * (I 149 (tn (((187 : Int32) + ((5 : Int32) * a1)) + 1))))) + (I 149 7))]) (M := sM Ln I L c s) (o := (none, .int (((139 : Int32) + ((8 : Int32) * (I 149 (tn (((187 : Int32) + ((5 : Int32) * a1)) + 1))))) + (I 149 7)), sM Ln I L c s)) rfl rfl (dd_Af.ret rfl ?_) (by omega)
  show dd_Rn (e + 15) m_X11_noteOf (20, [.ref 148, .int a1], [.int (((139 : Int32) + ((8 : Int32) * (I 149 (tn (((187 : Int32) + ((5 : Int32) * a1)) + 1))))) + (I 149 7)), .ref 149], sM Ln I L c s) _
  obtain ⟨hc, h⟩ := h
  refine dd_Rn.chk 0 (c := 0 ≤ ((139 : Int32) + ((8 : Int32) * (I 149 (tn (((187 : Int32) + ((5 : Int32) * a1)) + 1))))) + (I 149 7) ∧ tn (((139 : Int32) + ((8 : Int32) * (I 149 (tn (((187 : Int32) + ((5 : Int32) * a1)) + 1))))) + (I 149 7)) < 2220) (A := (21, [.ref 148, .int a1], [.int (I 149 (tn (((139 : Int32) + ((8 : Int32) * (I 149 (tn (((187 : Int32) + ((5 : Int32) * a1)) + 1))))) + (I 149 7))))], sM Ln I L c s)) rfl hc ?_ (by omega)
  refine dd_Rn.retK 0 (pc := 21) (ls := [.ref 148, .int a1]) (st := [.int (I 149 (tn (((139 : Int32) + ((8 : Int32) * (I 149 (tn (((187 : Int32) + ((5 : Int32) * a1)) + 1))))) + (I 149 7))))]) (M := sM Ln I L c s) (o := (none, .int (I 149 (tn (((139 : Int32) + ((8 : Int32) * (I 149 (tn (((187 : Int32) + ((5 : Int32) * a1)) + 1))))) + (I 149 7)))), sM Ln I L c s)) rfl rfl (dd_Af.ret rfl ?_) (by omega)
  show dd_Rn (e + 16) m_X11_hears (7, [.ref 148, .int a1], [.int (I 149 (tn (((139 : Int32) + ((8 : Int32) * (I 149 (tn (((187 : Int32) + ((5 : Int32) * a1)) + 1))))) + (I 149 7)))), .int a1, .ref 148], sM Ln I L c s) _
  refine dd_Rn.cI 0 (pc := 7) (ls := [.ref 148, .int a1]) (st := [.int (I 149 (tn (((139 : Int32) + ((8 : Int32) * (I 149 (tn (((187 : Int32) + ((5 : Int32) * a1)) + 1))))) + (I 149 7)))), .int a1, .ref 148]) (x := m_X11_hearsBy) (as := [.ref 148, .int a1, .int (I 149 (tn (((139 : Int32) + ((8 : Int32) * (I 149 (tn (((187 : Int32) + ((5 : Int32) * a1)) + 1))))) + (I 149 7))))]) (rest := []) rfl rfl rfl rfl h ?_
  intro x1 I1 L1 h
  show dd_Rn (e + 16) m_X11_hears (10, [.ref 148, .int a1], [.int x1], sM Ln I1 L1 c s) _
  obtain ⟨hc, h⟩ := h
  exact dd_Rn.retB 0 (cf' := (10, [.ref 148, .int a1], [.int x1], sM Ln I1 L1 c s)) (v := x1) rfl rfl hc h (by omega)

theorem w_X11_stepTo_0 {Ln d c s : Nat} {I : Nat → Nat → Int32} {L : Nat → Nat → Int64} {Q : dd_O → Prop} {a1 a2 : Int32} (hd : 28 ≤ d) (h : ((a2 = 2 → ((a2 = 3 → dd_Rn d m_X11_stepTo (48, [.ref 148, .int a1, .int a2, .int ((a1 - a1 / 8 * 8) + 1), .null], [.int 1, .int (a1 / 8)], sM Ln I L c s) Q) ∧ (¬ (a2 = 3) → ((a2 = 1 → dd_Rn d m_X11_stepTo (48, [.ref 148, .int a1, .int a2, .int ((a1 - a1 / 8 * 8) + 1), .null], [.int (-1), .int (a1 / 8)], sM Ln I L c s) Q) ∧ (¬ (a2 = 1) → dd_Rn d m_X11_stepTo (48, [.ref 148, .int a1, .int a2, .int ((a1 - a1 / 8 * 8) + 1), .null], [.int 0, .int (a1 / 8)], sM Ln I L c s) Q))))) ∧ (¬ (a2 = 2) → ((a2 = 4 → ((a2 = 3 → dd_Rn d m_X11_stepTo (48, [.ref 148, .int a1, .int a2, .int ((a1 - a1 / 8 * 8) + (-1)), .null], [.int 1, .int (a1 / 8)], sM Ln I L c s) Q) ∧ (¬ (a2 = 3) → ((a2 = 1 → dd_Rn d m_X11_stepTo (48, [.ref 148, .int a1, .int a2, .int ((a1 - a1 / 8 * 8) + (-1)), .null], [.int (-1), .int (a1 / 8)], sM Ln I L c s) Q) ∧ (¬ (a2 = 1) → dd_Rn d m_X11_stepTo (48, [.ref 148, .int a1, .int a2, .int ((a1 - a1 / 8 * 8) + (-1)), .null], [.int 0, .int (a1 / 8)], sM Ln I L c s) Q))))) ∧ (¬ (a2 = 4) → ((a2 = 3 → dd_Rn d m_X11_stepTo (48, [.ref 148, .int a1, .int a2, .int ((a1 - a1 / 8 * 8) + 0), .null], [.int 1, .int (a1 / 8)], sM Ln I L c s) Q) ∧ (¬ (a2 = 3) → ((a2 = 1 → dd_Rn d m_X11_stepTo (48, [.ref 148, .int a1, .int a2, .int ((a1 - a1 / 8 * 8) + 0), .null], [.int (-1), .int (a1 / 8)], sM Ln I L c s) Q) ∧ (¬ (a2 = 1) → dd_Rn d m_X11_stepTo (48, [.ref 148, .int a1, .int a2, .int ((a1 - a1 / 8 * 8) + 0), .null], [.int 0, .int (a1 / 8)], sM Ln I L c s) Q))))))))) : dd_Ev d m_X11_stepTo [.ref 148, .int a1, .int a2] (sM Ln I L c s) Q := by
  obtain ⟨e, rfl⟩ : ∃ e, d = e + 16 := ⟨d - 16, by omega⟩
  show dd_Rn (e + 16) m_X11_stepTo (0, [.ref 148, .int a1, .int a2, .null, .null], [], sM Ln I L c s) Q
  refine dd_Rn.ite 5 (c := a2 = 2) (A := (9, [.ref 148, .int a1, .int a2, .null, .null], [.int (a1 - a1 / 8 * 8)], sM Ln I L c s)) (B := (13, [.ref 148, .int a1, .int a2, .null, .null], [.int (a1 - a1 / 8 * 8)], sM Ln I L c s)) rfl (fun hc => ?_) (fun hc => ?_) (by omega)
  · have h := h.1 hc
    refine dd_Rn.ite 9 (c := a2 = 3) (A := (34, [.ref 148, .int a1, .int a2, .int ((a1 - a1 / 8 * 8) + 1), .null], [.int (a1 / 8)], sM Ln I L c s)) (B := (38, [.ref 148, .int a1, .int a2, .int ((a1 - a1 / 8 * 8) + 1), .null], [.int (a1 / 8)], sM Ln I L c s)) rfl (fun hc => ?_) (fun hc => ?_) (by omega)
    · have h := h.1 hc
      exact dd_Rn.go 2 (cf' := (48, [.ref 148, .int a1, .int a2, .int ((a1 - a1 / 8 * 8) + 1), .null], [.int 1, .int (a1 / 8)], sM Ln I L c s)) rfl h (by omega)
    · have h := h.2 hc
      refine dd_Rn.ite 2 (c := a2 = 1) (A := (43, [.ref 148, .int a1, .int a2, .int ((a1 - a1 / 8 * 8) + 1), .null], [.int (a1 / 8)], sM Ln I L c s)) (B := (47, [.ref 148, .int a1, .int a2, .int ((a1 - a1 / 8 * 8) + 1), .null], [.int (a1 / 8)], sM Ln I L c s)) rfl (fun hc => ?_) (fun hc => ?_) (by omega)
      · have h := h.1 hc
        exact dd_Rn.go 2 (cf' := (48, [.ref 148, .int a1, .int a2, .int ((a1 - a1 / 8 * 8) + 1), .null], [.int (-1), .int (a1 / 8)], sM Ln I L c s)) rfl h (by omega)
      · have h := h.2 hc
        exact dd_Rn.go 1 (cf' := (48, [.ref 148, .int a1, .int a2, .int ((a1 - a1 / 8 * 8) + 1), .null], [.int 0, .int (a1 / 8)], sM Ln I L c s)) rfl h (by omega)
  · have h := h.2 hc
    refine dd_Rn.ite 2 (c := a2 = 4) (A := (18, [.ref 148, .int a1, .int a2, .null, .null], [.int (a1 - a1 / 8 * 8)], sM Ln I L c s)) (B := (22, [.ref 148, .int a1, .int a2, .null, .null], [.int (a1 - a1 / 8 * 8)], sM Ln I L c s)) rfl (fun hc => ?_) (fun hc => ?_) (by omega)
    · have h := h.1 hc
      refine dd_Rn.ite 9 (c := a2 = 3) (A := (34, [.ref 148, .int a1, .int a2, .int ((a1 - a1 / 8 * 8) + (-1)), .null], [.int (a1 / 8)], sM Ln I L c s)) (B := (38, [.ref 148, .int a1, .int a2, .int ((a1 - a1 / 8 * 8) + (-1)), .null], [.int (a1 / 8)], sM Ln I L c s)) rfl (fun hc => ?_) (fun hc => ?_) (by omega)
      · have h := h.1 hc
        exact dd_Rn.go 2 (cf' := (48, [.ref 148, .int a1, .int a2, .int ((a1 - a1 / 8 * 8) + (-1)), .null], [.int 1, .int (a1 / 8)], sM Ln I L c s)) rfl h (by omega)
      · have h := h.2 hc
        refine dd_Rn.ite 2 (c := a2 = 1) (A := (43, [.ref 148, .int a1, .int a2, .int ((a1 - a1 / 8 * 8) + (-1)), .null], [.int (a1 / 8)], sM Ln I L c s)) (B := (47, [.ref 148, .int a1, .int a2, .int ((a1 - a1 / 8 * 8) + (-1)), .null], [.int (a1 / 8)], sM Ln I L c s)) rfl (fun hc => ?_) (fun hc => ?_) (by omega)
        · have h := h.1 hc
          exact dd_Rn.go 2 (cf' := (48, [.ref 148, .int a1, .int a2, .int ((a1 - a1 / 8 * 8) + (-1)), .null], [.int (-1), .int (a1 / 8)], sM Ln I L c s)) rfl h (by omega)
        · have h := h.2 hc
          exact dd_Rn.go 1 (cf' := (48, [.ref 148, .int a1, .int a2, .int ((a1 - a1 / 8 * 8) + (-1)), .null], [.int 0, .int (a1 / 8)], sM Ln I L c s)) rfl h (by omega)
    · have h := h.2 hc
      refine dd_Rn.ite 8 (c := a2 = 3) (A := (34, [.ref 148, .int a1, .int a2, .int ((a1 - a1 / 8 * 8) + 0), .null], [.int (a1 / 8)], sM Ln I L c s)) (B := (38, [.ref 148, .int a1, .int a2, .int ((a1 - a1 / 8 * 8) + 0), .null], [.int (a1 / 8)], sM Ln I L c s)) rfl (fun hc => ?_) (fun hc => ?_) (by omega)
      · have h := h.1 hc
        exact dd_Rn.go 2 (cf' := (48, [.ref 148, .int a1, .int a2, .int ((a1 - a1 / 8 * 8) + 0), .null], [.int 1, .int (a1 / 8)], sM Ln I L c s)) rfl h (by omega)
      · have h := h.2 hc
        refine dd_Rn.ite 2 (c := a2 = 1) (A := (43, [.ref 148, .int a1, .int a2, .int ((a1 - a1 / 8 * 8) + 0), .null], [.int (a1 / 8)], sM Ln I L c s)) (B := (47, [.ref 148, .int a1, .int a2, .int ((a1 - a1 / 8 * 8) + 0), .null], [.int (a1 / 8)], sM Ln I L c s)) rfl (fun hc => ?_) (fun hc => ?_) (by omega)
        · have h := h.1 hc
          exact dd_Rn.go 2 (cf' := (48, [.ref 148, .int a1, .int a2, .int ((a1 - a1 / 8 * 8) + 0), .null], [.int (-1), .int (a1 / 8)], sM Ln I L c s)) rfl h (by omega)
        · have h := h.2 hc
          exact dd_Rn.go 1 (cf' := (48, [.ref 148, .int a1, .int a2, .int ((a1 - a1 / 8 * 8) + 0), .null], [.int 0, .int (a1 / 8)], sM Ln I L c s)) rfl h (by omega)

theorem w_X11_stepTo_48 {Ln d c s : Nat} {I : Nat → Nat → Int32} {L : Nat → Nat → Int64} {Q : dd_O → Prop} {a1 a2 a3 b0 b1 : Int32} (hd : 28 ≤ d) (h : ((a3 < 0 → dd_Rn d m_X11_stepTo (86, [.ref 148, .int a1, .int a2, .int a3, .int (b0 + b1)], [], sM Ln I L c s) Q) ∧ (¬ (a3 < 0) → (((7 : Int32) < a3 → dd_Rn d m_X11_stepTo (86, [.ref 148, .int a1, .int a2, .int a3, .int (b0 + b1)], [], sM Ln I L c s) Q) ∧ (¬ ((7 : Int32) < a3) → ((b0 + b1 < 0 → dd_Rn d m_X11_stepTo (86, [.ref 148, .int a1, .int a2, .int a3, .int (b0 + b1)], [], sM Ln I L c s) Q) ∧ (¬ (b0 + b1 < 0) → (((7 : Int32) < b0 + b1 → dd_Rn d m_X11_stepTo (86, [.ref 148, .int a1, .int a2, .int a3, .int (b0 + b1)], [], sM Ln I L c s) Q) ∧ (¬ ((7 : Int32) < b0 + b1) → ((0 ≤ (11 : Int32) + (((8 : Int32) * (b0 + b1)) + a3) ∧ tn ((11 : Int32) + (((8 : Int32) * (b0 + b1)) + a3)) < 2220) ∧ ((I 149 (tn ((11 : Int32) + (((8 : Int32) * (b0 + b1)) + a3))) = 1 → dd_Rn d m_X11_stepTo (86, [.ref 148, .int a1, .int a2, .int a3, .int (b0 + b1)], [], sM Ln I L c s) Q) ∧ (¬ (I 149 (tn ((11 : Int32) + (((8 : Int32) * (b0 + b1)) + a3))) = 1) → dd_Rn d m_X11_stepTo (97, [.ref 148, .int a1, .int a2, .int a3, .int (b0 + b1)], [.int (((8 : Int32) * (b0 + b1)) + a3)], sM Ln I L c s) Q)))))))))))) : dd_Rn d m_X11_stepTo (48, [.ref 148, .int a1, .int a2, .int a3, .null], [.int b1, .int b0], sM Ln I L c s) Q := by
  obtain ⟨e, rfl⟩ : ∃ e, d = e + 16 := ⟨d - 16, by omega⟩
  refine dd_Rn.sub 5 (pc := 55) (ls := [.ref 148, .int a1, .int a2, .int a3, .int (b0 + b1)]) (st := [.int 7, .int 0, .int a3]) (M := sM Ln I L c s) (x := m_X11_in) (as := [.int a3, .int 0, .int 7]) (rest := []) rfl rfl rfl rfl ?_
  show dd_Rn (e + 15) m_X11_in (0, [.int a3, .int 0, .int 7], [], sM Ln I L c s) _
  refine dd_Rn.ite 2 (c := a3 < 0) (A := (14, [.int a3, .int 0, .int 7], [], sM Ln I L c s)) (B := (5, [.int a3, .int 0, .int 7], [], sM Ln I L c s)) rfl (fun hc => ?_) (fun hc => ?_) (by omega)
  · have h := h.1 hc
    refine dd_Rn.retK 1 (pc := 15) (ls := [.int a3, .int 0, .int 7]) (st := [.int 0]) (M := sM Ln I L c s) (o := (none, .int 0, sM Ln I L c s)) rfl rfl (dd_Af.ret rfl ?_) (by omega)
    show dd_Rn (e + 16) m_X11_stepTo (58, [.ref 148, .int a1, .int a2, .int a3, .int (b0 + b1)], [.int 0], sM Ln I L c s) _
    exact dd_Rn.go 1 (cf' := (86, [.ref 148, .int a1, .int a2, .int a3, .int (b0 + b1)], [], sM Ln I L c s)) rfl h (by omega)
  · have h := h.2 hc
    refine dd_Rn.ite 2 (c := (7 : Int32) < a3) (A := (14, [.int a3, .int 0, .int 7], [], sM Ln I L c s)) (B := (10, [.int a3, .int 0, .int 7], [], sM Ln I L c s)) rfl (fun hc => ?_) (fun hc => ?_) (by omega)
    · have h := h.1 hc
      refine dd_Rn.retK 1 (pc := 15) (ls := [.int a3, .int 0, .int 7]) (st := [.int 0]) (M := sM Ln I L c s) (o := (none, .int 0, sM Ln I L c s)) rfl rfl (dd_Af.ret rfl ?_) (by omega)
      show dd_Rn (e + 16) m_X11_stepTo (58, [.ref 148, .int a1, .int a2, .int a3, .int (b0 + b1)], [.int 0], sM Ln I L c s) _
      exact dd_Rn.go 1 (cf' := (86, [.ref 148, .int a1, .int a2, .int a3, .int (b0 + b1)], [], sM Ln I L c s)) rfl h (by omega)
    · have h := h.2 hc
      refine dd_Rn.retK 2 (pc := 15) (ls := [.int a3, .int 0, .int 7]) (st := [.int 1]) (M := sM Ln I L c s) (o := (none, .int 1, sM Ln I L c s)) rfl rfl (dd_Af.ret rfl ?_) (by omega)
      show dd_Rn (e + 16) m_X11_stepTo (58, [.ref 148, .int a1, .int a2, .int a3, .int (b0 + b1)], [.int 1], sM Ln I L c s) _
      refine dd_Rn.sub 4 (pc := 66) (ls := [.ref 148, .int a1, .int a2, .int a3, .int (b0 + b1)]) (st := [.int 7, .int 0, .int (b0 + b1)]) (M := sM Ln I L c s) (x := m_X11_in) (as := [.int (b0 + b1), .int 0, .int 7]) (rest := []) rfl rfl rfl rfl ?_
      show dd_Rn (e + 15) m_X11_in (0, [.int (b0 + b1), .int 0, .int 7], [], sM Ln I L c s) _
      refine dd_Rn.ite 2 (c := b0 + b1 < 0) (A := (14, [.int (b0 + b1), .int 0, .int 7], [], sM Ln I L c s)) (B := (5, [.int (b0 + b1), .int 0, .int 7], [], sM Ln I L c s)) rfl (fun hc => ?_) (fun hc => ?_) (by omega)
      · have h := h.1 hc
        refine dd_Rn.retK 1 (pc := 15) (ls := [.int (b0 + b1), .int 0, .int 7]) (st := [.int 0]) (M := sM Ln I L c s) (o := (none, .int 0, sM Ln I L c s)) rfl rfl (dd_Af.ret rfl ?_) (by omega)
        show dd_Rn (e + 16) m_X11_stepTo (69, [.ref 148, .int a1, .int a2, .int a3, .int (b0 + b1)], [.int 0], sM Ln I L c s) _
        exact dd_Rn.go 1 (cf' := (86, [.ref 148, .int a1, .int a2, .int a3, .int (b0 + b1)], [], sM Ln I L c s)) rfl h (by omega)
      · have h := h.2 hc
        refine dd_Rn.ite 2 (c := (7 : Int32) < b0 + b1) (A := (14, [.int (b0 + b1), .int 0, .int 7], [], sM Ln I L c s)) (B := (10, [.int (b0 + b1), .int 0, .int 7], [], sM Ln I L c s)) rfl (fun hc => ?_) (fun hc => ?_) (by omega)
        · have h := h.1 hc
          refine dd_Rn.retK 1 (pc := 15) (ls := [.int (b0 + b1), .int 0, .int 7]) (st := [.int 0]) (M := sM Ln I L c s) (o := (none, .int 0, sM Ln I L c s)) rfl rfl (dd_Af.ret rfl ?_) (by omega)
          show dd_Rn (e + 16) m_X11_stepTo (69, [.ref 148, .int a1, .int a2, .int a3, .int (b0 + b1)], [.int 0], sM Ln I L c s) _
          exact dd_Rn.go 1 (cf' := (86, [.ref 148, .int a1, .int a2, .int a3, .int (b0 + b1)], [], sM Ln I L c s)) rfl h (by omega)
        · have h := h.2 hc
          refine dd_Rn.retK 2 (pc := 15) (ls := [.int (b0 + b1), .int 0, .int 7]) (st := [.int 1]) (M := sM Ln I L c s) (o := (none, .int 1, sM Ln I L c s)) rfl rfl (dd_Af.ret rfl ?_) (by omega)
          show dd_Rn (e + 16) m_X11_stepTo (69, [.ref 148, .int a1, .int a2, .int a3, .int (b0 + b1)], [.int 1], sM Ln I L c s) _
          refine dd_Rn.sub 7 (pc := 80) (ls := [.ref 148, .int a1, .int a2, .int a3, .int (b0 + b1)]) (st := [.int (((8 : Int32) * (b0 + b1)) + a3), .ref 148]) (M := sM Ln I L c s) (x := m_X11_hasTrees) (as := [.ref 148, .int (((8 : Int32) * (b0 + b1)) + a3)]) (rest := []) rfl rfl rfl rfl ?_
          show dd_Rn (e + 15) m_X11_hasTrees (0, [.ref 148, .int (((8 : Int32) * (b0 + b1)) + a3)], [], sM Ln I L c s) _
          obtain ⟨hc, h⟩ := h
          refine dd_Rn.chk 5 (c := 0 ≤ (11 : Int32) + (((8 : Int32) * (b0 + b1)) + a3) ∧ tn ((11 : Int32) + (((8 : Int32) * (b0 + b1)) + a3)) < 2220) (A := (9, [.ref 148, .int (((8 : Int32) * (b0 + b1)) + a3)], [.int (I 149 (tn ((11 : Int32) + (((8 : Int32) * (b0 + b1)) + a3))))], sM Ln I L c s)) rfl hc ?_ (by omega)
          refine dd_Rn.ite 1 (c := I 149 (tn ((11 : Int32) + (((8 : Int32) * (b0 + b1)) + a3))) = 1) (A := (13, [.ref 148, .int (((8 : Int32) * (b0 + b1)) + a3)], [], sM Ln I L c s)) (B := (17, [.ref 148, .int (((8 : Int32) * (b0 + b1)) + a3)], [], sM Ln I L c s)) rfl (fun hc => ?_) (fun hc => ?_) (by omega)
          · have h := h.1 hc
            refine dd_Rn.retK 2 (pc := 18) (ls := [.ref 148, .int (((8 : Int32) * (b0 + b1)) + a3)]) (st := [.int 1]) (M := sM Ln I L c s) (o := (none, .int 1, sM Ln I L c s)) rfl rfl (dd_Af.ret rfl ?_) (by omega)
            show dd_Rn (e + 16) m_X11_stepTo (83, [.ref 148, .int a1, .int a2, .int a3, .int (b0 + b1)], [.int 1], sM Ln I L c s) _
            exact dd_Rn.go 1 (cf' := (86, [.ref 148, .int a1, .int a2, .int a3, .int (b0 + b1)], [], sM Ln I L c s)) rfl h (by omega)
          · have h := h.2 hc
            refine dd_Rn.retK 1 (pc := 18) (ls := [.ref 148, .int (((8 : Int32) * (b0 + b1)) + a3)]) (st := [.int 0]) (M := sM Ln I L c s) (o := (none, .int 0, sM Ln I L c s)) rfl rfl (dd_Af.ret rfl ?_) (by omega)
            show dd_Rn (e + 16) m_X11_stepTo (83, [.ref 148, .int a1, .int a2, .int a3, .int (b0 + b1)], [.int 0], sM Ln I L c s) _
            exact dd_Rn.go 6 (cf' := (97, [.ref 148, .int a1, .int a2, .int a3, .int (b0 + b1)], [.int (((8 : Int32) * (b0 + b1)) + a3)], sM Ln I L c s)) rfl h (by omega)

theorem w_X11_stepTo_86 {Ln d c s : Nat} {I : Nat → Nat → Int32} {L : Nat → Nat → Int64} {Q : dd_O → Prop} {a1 a2 a3 a4 : Int32} (hd : 28 ≤ d) (h : dd_Rn d m_X11_stepTo (97, [.ref 148, .int a1, .int a2, .int a3, .int a4], [.int a1], sM Ln I L c s) Q) : dd_Rn d m_X11_stepTo (86, [.ref 148, .int a1, .int a2, .int a3, .int a4], [], sM Ln I L c s) Q := by
  obtain ⟨e, rfl⟩ : ∃ e, d = e + 16 := ⟨d - 16, by omega⟩
  exact dd_Rn.go 2 (cf' := (97, [.ref 148, .int a1, .int a2, .int a3, .int a4], [.int a1], sM Ln I L c s)) rfl h (by omega)

theorem w_X11_stepTo_97 {Ln d c s : Nat} {I : Nat → Nat → Int32} {L : Nat → Nat → Int64} {Q : dd_O → Prop} {a1 a2 a3 a4 b0 : Int32} (hd : 28 ≤ d) (h : Q (none, .int b0, sM Ln I L c s)) : dd_Rn d m_X11_stepTo (97, [.ref 148, .int a1, .int a2, .int a3, .int a4], [.int b0], sM Ln I L c s) Q := by
  obtain ⟨e, rfl⟩ : ∃ e, d = e + 16 := ⟨d - 16, by omega⟩
  exact dd_Rn.retK 0 (pc := 97) (ls := [.ref 148, .int a1, .int a2, .int a3, .int a4]) (st := [.int b0]) (M := sM Ln I L c s) (o := (none, .int b0, sM Ln I L c s)) rfl rfl h (by omega)

theorem w_X11_stepNearer_0 {Ln d c s : Nat} {I : Nat → Nat → Int32} {L : Nat → Nat → Int64} {Q : dd_O → Prop} {a1 : Int32} (hd : 28 ≤ d) (h : ((((I 149 4) - (I 149 4) / 8 * 8) - (a1 - a1 / 8 * 8) = 0 → ((((I 149 4) / 8) - (a1 / 8) = 0 → dd_Rn d m_X11_stepNearer (76, [.ref 148, .int a1, .int (((I 149 4) - (I 149 4) / 8 * 8) - (a1 - a1 / 8 * 8)), .int (((I 149 4) / 8) - (a1 / 8)), .int a1, .null, .null], [.int a1], sM Ln I L c s) Q) ∧ (¬ (((I 149 4) / 8) - (a1 / 8) = 0) → ((((I 149 4) / 8) - (a1 / 8) ≤ 0 → dd_Ev (d - 1) m_X11_stepTo [.ref 148, .int a1, .int 1] (sM Ln I L c s) (dd_RI Ln c s (fun x1 I1 L1 => dd_Rn d m_X11_stepNearer (76, [.ref 148, .int a1, .int (((I 149 4) - (I 149 4) / 8 * 8) - (a1 - a1 / 8 * 8)), .int (((I 149 4) / 8) - (a1 / 8)), .int a1, .null, .null], [.int x1], sM Ln I1 L1 c s) Q))) ∧ (¬ (((I 149 4) / 8) - (a1 / 8) ≤ 0) → dd_Ev (d - 1) m_X11_stepTo [.ref 148, .int a1, .int 3] (sM Ln I L c s) (dd_RI Ln c s (fun x2 I2 L2 => dd_Rn d m_X11_stepNearer (76, [.ref 148, .int a1, .int (((I 149 4) - (I 149 4) / 8 * 8) - (a1 - a1 / 8 * 8)), .int (((I 149 4) / 8) - (a1 / 8)), .int a1, .null, .null], [.int x2], sM Ln I2 L2 c s) Q))))))) ∧ (¬ (((I 149 4) - (I 149 4) / 8 * 8) - (a1 - a1 / 8 * 8) = 0) → ((((I 149 4) - (I 149 4) / 8 * 8) - (a1 - a1 / 8 * 8) ≤ 0 → dd_Ev (d - 1) m_X11_stepTo [.ref 148, .int a1, .int 4] (sM Ln I L c s) (dd_RI Ln c s (fun x3 I3 L3 => ((((I 149 4) / 8) - (a1 / 8) = 0 → dd_Rn d m_X11_stepNearer (76, [.ref 148, .int a1, .int (((I 149 4) - (I 149 4) / 8 * 8) - (a1 - a1 / 8 * 8)), .int (((I 149 4) / 8) - (a1 / 8)), .int x3, .null, .null], [.int a1], sM Ln I3 L3 c s) Q) ∧ (¬ (((I 149 4) / 8) - (a1 / 8) = 0) → ((((I 149 4) / 8) - (a1 / 8) ≤ 0 → dd_Ev (d - 1) m_X11_stepTo [.ref 148, .int a1, .int 1] (sM Ln I3 L3 c s) (dd_RI Ln c s (fun x4 I4 L4 => dd_Rn d m_X11_stepNearer (76, [.ref 148, .int a1, .int (((I 149 4) - (I 149 4) / 8 * 8) - (a1 - a1 / 8 * 8)), .int (((I 149 4) / 8) - (a1 / 8)), .int x3, .null, .null], [.int x4], sM Ln I4 L4 c s) Q))) ∧ (¬ (((I 149 4) / 8) - (a1 / 8) ≤ 0) → dd_Ev (d - 1) m_X11_stepTo [.ref 148, .int a1, .int 3] (sM Ln I3 L3 c s) (dd_RI Ln c s (fun x5 I5 L5 => dd_Rn d m_X11_stepNearer (76, [.ref 148, .int a1, .int (((I 149 4) - (I 149 4) / 8 * 8) - (a1 - a1 / 8 * 8)), .int (((I 149 4) / 8) - (a1 / 8)), .int x3, .null, .null], [.int x5], sM Ln I5 L5 c s) Q))))))))) ∧ (¬ (((I 149 4) - (I 149 4) / 8 * 8) - (a1 - a1 / 8 * 8) ≤ 0) → dd_Ev (d - 1) m_X11_stepTo [.ref 148, .int a1, .int 2] (sM Ln I L c s) (dd_RI Ln c s (fun x6 I6 L6 => ((((I 149 4) / 8) - (a1 / 8) = 0 → dd_Rn d m_X11_stepNearer (76, [.ref 148, .int a1, .int (((I 149 4) - (I 149 4) / 8 * 8) - (a1 - a1 / 8 * 8)), .int (((I 149 4) / 8) - (a1 / 8)), .int x6, .null, .null], [.int a1], sM Ln I6 L6 c s) Q) ∧ (¬ (((I 149 4) / 8) - (a1 / 8) = 0) → ((((I 149 4) / 8) - (a1 / 8) ≤ 0 → dd_Ev (d - 1) m_X11_stepTo [.ref 148, .int a1, .int 1] (sM Ln I6 L6 c s) (dd_RI Ln c s (fun x7 I7 L7 => dd_Rn d m_X11_stepNearer (76, [.ref 148, .int a1, .int (((I 149 4) - (I 149 4) / 8 * 8) - (a1 - a1 / 8 * 8)), .int (((I 149 4) / 8) - (a1 / 8)), .int x6, .null, .null], [.int x7], sM Ln I7 L7 c s) Q))) ∧ (¬ (((I 149 4) / 8) - (a1 / 8) ≤ 0) → dd_Ev (d - 1) m_X11_stepTo [.ref 148, .int a1, .int 3] (sM Ln I6 L6 c s) (dd_RI Ln c s (fun x8 I8 L8 => dd_Rn d m_X11_stepNearer (76, [.ref 148, .int a1, .int (((I 149 4) - (I 149 4) / 8 * 8) - (a1 - a1 / 8 * 8)), .int (((I 149 4) / 8) - (a1 / 8)), .int x6, .null, .null], [.int x8], sM Ln I8 L8 c s) Q))))))))))))) : dd_Ev d m_X11_stepNearer [.ref 148, .int a1] (sM Ln I L c s) Q := by
  obtain ⟨e, rfl⟩ : ∃ e, d = e + 16 := ⟨d - 16, by omega⟩
  show dd_Rn (e + 16) m_X11_stepNearer (0, [.ref 148, .int a1, .null, .null, .null, .null, .null], [], sM Ln I L c s) Q
  refine dd_Rn.ite 23 (c := ((I 149 4) - (I 149 4) / 8 * 8) - (a1 - a1 / 8 * 8) = 0) (A := (34, [.ref 148, .int a1, .int (((I 149 4) - (I 149 4) / 8 * 8) - (a1 - a1 / 8 * 8)), .int (((I 149 4) / 8) - (a1 / 8)), .null, .null, .null], [], sM Ln I L c s)) (B := (38, [.ref 148, .int a1, .int (((I 149 4) - (I 149 4) / 8 * 8) - (a1 - a1 / 8 * 8)), .int (((I 149 4) / 8) - (a1 / 8)), .null, .null, .null], [], sM Ln I L c s)) rfl (fun hc => ?_) (fun hc => ?_) (by omega)
  · have h := h.1 hc
    refine dd_Rn.ite 4 (c := ((I 149 4) / 8) - (a1 / 8) = 0) (A := (58, [.ref 148, .int a1, .int (((I 149 4) - (I 149 4) / 8 * 8) - (a1 - a1 / 8 * 8)), .int (((I 149 4) / 8) - (a1 / 8)), .int a1, .null, .null], [], sM Ln I L c s)) (B := (62, [.ref 148, .int a1, .int (((I 149 4) - (I 149 4) / 8 * 8) - (a1 - a1 / 8 * 8)), .int (((I 149 4) / 8) - (a1 / 8)), .int a1, .null, .null], [], sM Ln I L c s)) rfl (fun hc => ?_) (fun hc => ?_) (by omega)
    · have h := h.1 hc
      exact dd_Rn.go 2 (cf' := (76, [.ref 148, .int a1, .int (((I 149 4) - (I 149 4) / 8 * 8) - (a1 - a1 / 8 * 8)), .int (((I 149 4) / 8) - (a1 / 8)), .int a1, .null, .null], [.int a1], sM Ln I L c s)) rfl h (by omega)
    · have h := h.2 hc
      refine dd_Rn.ite 3 (c := ((I 149 4) / 8) - (a1 / 8) ≤ 0) (A := (72, [.ref 148, .int a1, .int (((I 149 4) - (I 149 4) / 8 * 8) - (a1 - a1 / 8 * 8)), .int (((I 149 4) / 8) - (a1 / 8)), .int a1, .null, .null], [.int a1, .ref 148], sM Ln I L c s)) (B := (68, [.ref 148, .int a1, .int (((I 149 4) - (I 149 4) / 8 * 8) - (a1 - a1 / 8 * 8)), .int (((I 149 4) / 8) - (a1 / 8)), .int a1, .null, .null], [.int a1, .ref 148], sM Ln I L c s)) rfl (fun hc => ?_) (fun hc => ?_) (by omega)
      · have h := h.1 hc
        refine dd_Rn.cI 1 (pc := 73) (ls := [.ref 148, .int a1, .int (((I 149 4) - (I 149 4) / 8 * 8) - (a1 - a1 / 8 * 8)), .int (((I 149 4) / 8) - (a1 / 8)), .int a1, .null, .null]) (st := [.int 1, .int a1, .ref 148]) (x := m_X11_stepTo) (as := [.ref 148, .int a1, .int 1]) (rest := []) rfl rfl rfl rfl h ?_
        intro x1 I1 L1 h
        show dd_Rn (e + 16) m_X11_stepNearer (76, [.ref 148, .int a1, .int (((I 149 4) - (I 149 4) / 8 * 8) - (a1 - a1 / 8 * 8)), .int (((I 149 4) / 8) - (a1 / 8)), .int a1, .null, .null], [.int x1], sM Ln I1 L1 c s) _
        exact dd_Rn.go 0 (cf' := (76, [.ref 148, .int a1, .int (((I 149 4) - (I 149 4) / 8 * 8) - (a1 - a1 / 8 * 8)), .int (((I 149 4) / 8) - (a1 / 8)), .int a1, .null, .null], [.int x1], sM Ln I1 L1 c s)) rfl h (by omega)
      · have h := h.2 hc
        refine dd_Rn.cI 2 (pc := 73) (ls := [.ref 148, .int a1, .int (((I 149 4) - (I 149 4) / 8 * 8) - (a1 - a1 / 8 * 8)), .int (((I 149 4) / 8) - (a1 / 8)), .int a1, .null, .null]) (st := [.int 3, .int a1, .ref 148]) (x := m_X11_stepTo) (as := [.ref 148, .int a1, .int 3]) (rest := []) rfl rfl rfl rfl h ?_
        intro x2 I2 L2 h
        show dd_Rn (e + 16) m_X11_stepNearer (76, [.ref 148, .int a1, .int (((I 149 4) - (I 149 4) / 8 * 8) - (a1 - a1 / 8 * 8)), .int (((I 149 4) / 8) - (a1 / 8)), .int a1, .null, .null], [.int x2], sM Ln I2 L2 c s) _
        exact dd_Rn.go 0 (cf' := (76, [.ref 148, .int a1, .int (((I 149 4) - (I 149 4) / 8 * 8) - (a1 - a1 / 8 * 8)), .int (((I 149 4) / 8) - (a1 / 8)), .int a1, .null, .null], [.int x2], sM Ln I2 L2 c s)) rfl h (by omega)
  · have h := h.2 hc
    refine dd_Rn.ite 3 (c := ((I 149 4) - (I 149 4) / 8 * 8) - (a1 - a1 / 8 * 8) ≤ 0) (A := (48, [.ref 148, .int a1, .int (((I 149 4) - (I 149 4) / 8 * 8) - (a1 - a1 / 8 * 8)), .int (((I 149 4) / 8) - (a1 / 8)), .null, .null, .null], [.int a1, .ref 148], sM Ln I L c s)) (B := (44, [.ref 148, .int a1, .int (((I 149 4) - (I 149 4) / 8 * 8) - (a1 - a1 / 8 * 8)), .int (((I 149 4) / 8) - (a1 / 8)), .null, .null, .null], [.int a1, .ref 148], sM Ln I L c s)) rfl (fun hc => ?_) (fun hc => ?_) (by omega)
    · have h := h.1 hc
      refine dd_Rn.cI 1 (pc := 49) (ls := [.ref 148, .int a1, .int (((I 149 4) - (I 149 4) / 8 * 8) - (a1 - a1 / 8 * 8)), .int (((I 149 4) / 8) - (a1 / 8)), .null, .null, .null]) (st := [.int 4, .int a1, .ref 148]) (x := m_X11_stepTo) (as := [.ref 148, .int a1, .int 4]) (rest := []) rfl rfl rfl rfl h ?_
      intro x3 I3 L3 h
      show dd_Rn (e + 16) m_X11_stepNearer (52, [.ref 148, .int a1, .int (((I 149 4) - (I 149 4) / 8 * 8) - (a1 - a1 / 8 * 8)), .int (((I 149 4) / 8) - (a1 / 8)), .null, .null, .null], [.int x3], sM Ln I3 L3 c s) _
      refine dd_Rn.ite 2 (c := ((I 149 4) / 8) - (a1 / 8) = 0) (A := (58, [.ref 148, .int a1, .int (((I 149 4) - (I 149 4) / 8 * 8) - (a1 - a1 / 8 * 8)), .int (((I 149 4) / 8) - (a1 / 8)), .int x3, .null, .null], [], sM Ln I3 L3 c s)) (B := (62, [.ref 148, .int a1, .int (((I 149 4) - (I 149 4) / 8 * 8) - (a1 - a1 / 8 * 8)), .int (((I 149 4) / 8) - (a1 / 8)), .int x3, .null, .null], [], sM Ln I3 L3 c s)) rfl (fun hc => ?_) (fun hc => ?_) (by omega)
      · have h := h.1 hc
        exact dd_Rn.go 2 (cf' := (76, [.ref 148, .int a1, .int (((I 149 4) - (I 149 4) / 8 * 8) - (a1 - a1 / 8 * 8)), .int (((I 149 4) / 8) - (a1 / 8)), .int x3, .null, .null], [.int a1], sM Ln I3 L3 c s)) rfl h (by omega)
      · have h := h.2 hc
        refine dd_Rn.ite 3 (c := ((I 149 4) / 8) - (a1 / 8) ≤ 0) (A := (72, [.ref 148, .int a1, .int (((I 149 4) - (I 149 4) / 8 * 8) - (a1 - a1 / 8 * 8)), .int (((I 149 4) / 8) - (a1 / 8)), .int x3, .null, .null], [.int a1, .ref 148], sM Ln I3 L3 c s)) (B := (68, [.ref 148, .int a1, .int (((I 149 4) - (I 149 4) / 8 * 8) - (a1 - a1 / 8 * 8)), .int (((I 149 4) / 8) - (a1 / 8)), .int x3, .null, .null], [.int a1, .ref 148], sM Ln I3 L3 c s)) rfl (fun hc => ?_) (fun hc => ?_) (by omega)
        · have h := h.1 hc
          refine dd_Rn.cI 1 (pc := 73) (ls := [.ref 148, .int a1, .int (((I 149 4) - (I 149 4) / 8 * 8) - (a1 - a1 / 8 * 8)), .int (((I 149 4) / 8) - (a1 / 8)), .int x3, .null, .null]) (st := [.int 1, .int a1, .ref 148]) (x := m_X11_stepTo) (as := [.ref 148, .int a1, .int 1]) (rest := []) rfl rfl rfl rfl h ?_
          intro x4 I4 L4 h
          show dd_Rn (e + 16) m_X11_stepNearer (76, [.ref 148, .int a1, .int (((I 149 4) - (I 149 4) / 8 * 8) - (a1 - a1 / 8 * 8)), .int (((I 149 4) / 8) - (a1 / 8)), .int x3, .null, .null], [.int x4], sM Ln I4 L4 c s) _
          exact dd_Rn.go 0 (cf' := (76, [.ref 148, .int a1, .int (((I 149 4) - (I 149 4) / 8 * 8) - (a1 - a1 / 8 * 8)), .int (((I 149 4) / 8) - (a1 / 8)), .int x3, .null, .null], [.int x4], sM Ln I4 L4 c s)) rfl h (by omega)
        · have h := h.2 hc
          refine dd_Rn.cI 2 (pc := 73) (ls := [.ref 148, .int a1, .int (((I 149 4) - (I 149 4) / 8 * 8) - (a1 - a1 / 8 * 8)), .int (((I 149 4) / 8) - (a1 / 8)), .int x3, .null, .null]) (st := [.int 3, .int a1, .ref 148]) (x := m_X11_stepTo) (as := [.ref 148, .int a1, .int 3]) (rest := []) rfl rfl rfl rfl h ?_
          intro x5 I5 L5 h
          show dd_Rn (e + 16) m_X11_stepNearer (76, [.ref 148, .int a1, .int (((I 149 4) - (I 149 4) / 8 * 8) - (a1 - a1 / 8 * 8)), .int (((I 149 4) / 8) - (a1 / 8)), .int x3, .null, .null], [.int x5], sM Ln I5 L5 c s) _
          exact dd_Rn.go 0 (cf' := (76, [.ref 148, .int a1, .int (((I 149 4) - (I 149 4) / 8 * 8) - (a1 - a1 / 8 * 8)), .int (((I 149 4) / 8) - (a1 / 8)), .int x3, .null, .null], [.int x5], sM Ln I5 L5 c s)) rfl h (by omega)
    · have h := h.2 hc
      refine dd_Rn.cI 2 (pc := 49) (ls := [.ref 148, .int a1, .int (((I 149 4) - (I 149 4) / 8 * 8) - (a1 - a1 / 8 * 8)), .int (((I 149 4) / 8) - (a1 / 8)), .null, .null, .null]) (st := [.int 2, .int a1, .ref 148]) (x := m_X11_stepTo) (as := [.ref 148, .int a1, .int 2]) (rest := []) rfl rfl rfl rfl h ?_
      intro x6 I6 L6 h
      show dd_Rn (e + 16) m_X11_stepNearer (52, [.ref 148, .int a1, .int (((I 149 4) - (I 149 4) / 8 * 8) - (a1 - a1 / 8 * 8)), .int (((I 149 4) / 8) - (a1 / 8)), .null, .null, .null], [.int x6], sM Ln I6 L6 c s) _
      refine dd_Rn.ite 2 (c := ((I 149 4) / 8) - (a1 / 8) = 0) (A := (58, [.ref 148, .int a1, .int (((I 149 4) - (I 149 4) / 8 * 8) - (a1 - a1 / 8 * 8)), .int (((I 149 4) / 8) - (a1 / 8)), .int x6, .null, .null], [], sM Ln I6 L6 c s)) (B := (62, [.ref 148, .int a1, .int (((I 149 4) - (I 149 4) / 8 * 8) - (a1 - a1 / 8 * 8)), .int (((I 149 4) / 8) - (a1 / 8)), .int x6, .null, .null], [], sM Ln I6 L6 c s)) rfl (fun hc => ?_) (fun hc => ?_) (by omega)
      · have h := h.1 hc
        exact dd_Rn.go 2 (cf' := (76, [.ref 148, .int a1, .int (((I 149 4) - (I 149 4) / 8 * 8) - (a1 - a1 / 8 * 8)), .int (((I 149 4) / 8) - (a1 / 8)), .int x6, .null, .null], [.int a1], sM Ln I6 L6 c s)) rfl h (by omega)
      · have h := h.2 hc
        refine dd_Rn.ite 3 (c := ((I 149 4) / 8) - (a1 / 8) ≤ 0) (A := (72, [.ref 148, .int a1, .int (((I 149 4) - (I 149 4) / 8 * 8) - (a1 - a1 / 8 * 8)), .int (((I 149 4) / 8) - (a1 / 8)), .int x6, .null, .null], [.int a1, .ref 148], sM Ln I6 L6 c s)) (B := (68, [.ref 148, .int a1, .int (((I 149 4) - (I 149 4) / 8 * 8) - (a1 - a1 / 8 * 8)), .int (((I 149 4) / 8) - (a1 / 8)), .int x6, .null, .null], [.int a1, .ref 148], sM Ln I6 L6 c s)) rfl (fun hc => ?_) (fun hc => ?_) (by omega)
        · have h := h.1 hc
          refine dd_Rn.cI 1 (pc := 73) (ls := [.ref 148, .int a1, .int (((I 149 4) - (I 149 4) / 8 * 8) - (a1 - a1 / 8 * 8)), .int (((I 149 4) / 8) - (a1 / 8)), .int x6, .null, .null]) (st := [.int 1, .int a1, .ref 148]) (x := m_X11_stepTo) (as := [.ref 148, .int a1, .int 1]) (rest := []) rfl rfl rfl rfl h ?_
          intro x7 I7 L7 h
          show dd_Rn (e + 16) m_X11_stepNearer (76, [.ref 148, .int a1, .int (((I 149 4) - (I 149 4) / 8 * 8) - (a1 - a1 / 8 * 8)), .int (((I 149 4) / 8) - (a1 / 8)), .int x6, .null, .null], [.int x7], sM Ln I7 L7 c s) _
          exact dd_Rn.go 0 (cf' := (76, [.ref 148, .int a1, .int (((I 149 4) - (I 149 4) / 8 * 8) - (a1 - a1 / 8 * 8)), .int (((I 149 4) / 8) - (a1 / 8)), .int x6, .null, .null], [.int x7], sM Ln I7 L7 c s)) rfl h (by omega)
        · have h := h.2 hc
          refine dd_Rn.cI 2 (pc := 73) (ls := [.ref 148, .int a1, .int (((I 149 4) - (I 149 4) / 8 * 8) - (a1 - a1 / 8 * 8)), .int (((I 149 4) / 8) - (a1 / 8)), .int x6, .null, .null]) (st := [.int 3, .int a1, .ref 148]) (x := m_X11_stepTo) (as := [.ref 148, .int a1, .int 3]) (rest := []) rfl rfl rfl rfl h ?_
          intro x8 I8 L8 h
          show dd_Rn (e + 16) m_X11_stepNearer (76, [.ref 148, .int a1, .int (((I 149 4) - (I 149 4) / 8 * 8) - (a1 - a1 / 8 * 8)), .int (((I 149 4) / 8) - (a1 / 8)), .int x6, .null, .null], [.int x8], sM Ln I8 L8 c s) _
          exact dd_Rn.go 0 (cf' := (76, [.ref 148, .int a1, .int (((I 149 4) - (I 149 4) / 8 * 8) - (a1 - a1 / 8 * 8)), .int (((I 149 4) / 8) - (a1 / 8)), .int x6, .null, .null], [.int x8], sM Ln I8 L8 c s)) rfl h (by omega)

theorem w_X11_stepNearer_76 {Ln d c s : Nat} {I : Nat → Nat → Int32} {L : Nat → Nat → Int64} {Q : dd_O → Prop} {a1 a2 a3 a4 b0 : Int32} (hd : 28 ≤ d) (h : ((a2 = 0 → dd_Rn d m_X11_stepNearer (97, [.ref 148, .int a1, .int a2, .int a3, .int a4, .int b0, .null], [], sM Ln I L c s) Q) ∧ (¬ (a2 = 0) → (((if (0 : Int32) ≤ a2 then a2 else (0 : Int32) - a2) < (if (0 : Int32) ≤ a3 then a3 else (0 : Int32) - a3) → dd_Rn d m_X11_stepNearer (97, [.ref 148, .int a1, .int a2, .int a3, .int a4, .int b0, .null], [], sM Ln I L c s) Q) ∧ (¬ ((if (0 : Int32) ≤ a2 then a2 else (0 : Int32) - a2) < (if (0 : Int32) ≤ a3 then a3 else (0 : Int32) - a3)) → dd_Rn d m_X11_stepNearer (98, [.ref 148, .int a1, .int a2, .int a3, .int a4, .int b0, .null], [.int 1], sM Ln I L c s) Q))))) : dd_Rn d m_X11_stepNearer (76, [.ref 148, .int a1, .int a2, .int a3, .int a4, .null, .null], [.int b0], sM Ln I L c s) Q := by
  obtain ⟨e, rfl⟩ : ∃ e, d = e + 16 := ⟨d - 16, by omega⟩
  refine dd_Rn.ite 2 (c := a2 = 0) (A := (97, [.ref 148, .int a1, .int a2, .int a3, .int a4, .int b0, .null], [], sM Ln I L c s)) (B := (82, [.ref 148, .int a1, .int a2, .int a3, .int a4, .int b0, .null], [], sM Ln I L c s)) rfl (fun hc => ?_) (fun hc => ?_) (by omega)
  · have h := h.1 hc
    exact dd_Rn.go 0 (cf' := (97, [.ref 148, .int a1, .int a2, .int a3, .int a4, .int b0, .null], [], sM Ln I L c s)) rfl h (by omega)
  · have h := h.2 hc
    refine dd_Rn.ite 4 (c := (if (0 : Int32) ≤ a2 then a2 else (0 : Int32) - a2) < (if (0 : Int32) ≤ a3 then a3 else (0 : Int32) - a3)) (A := (97, [.ref 148, .int a1, .int a2, .int a3, .int a4, .int b0, .null], [], sM Ln I L c s)) (B := (93, [.ref 148, .int a1, .int a2, .int a3, .int a4, .int b0, .null], [], sM Ln I L c s)) rfl (fun hc => ?_) (fun hc => ?_) (by omega)
    · have h := h.1 hc
      exact dd_Rn.go 0 (cf' := (97, [.ref 148, .int a1, .int a2, .int a3, .int a4, .int b0, .null], [], sM Ln I L c s)) rfl h (by omega)
    · have h := h.2 hc
      exact dd_Rn.go 2 (cf' := (98, [.ref 148, .int a1, .int a2, .int a3, .int a4, .int b0, .null], [.int 1], sM Ln I L c s)) rfl h (by omega)

theorem w_X11_stepNearer_97 {Ln d c s : Nat} {I : Nat → Nat → Int32} {L : Nat → Nat → Int64} {Q : dd_O → Prop} {a1 a2 a3 a4 a5 : Int32} (hd : 28 ≤ d) (h : dd_Rn d m_X11_stepNearer (98, [.ref 148, .int a1, .int a2, .int a3, .int a4, .int a5, .null], [.int 0], sM Ln I L c s) Q) : dd_Rn d m_X11_stepNearer (97, [.ref 148, .int a1, .int a2, .int a3, .int a4, .int a5, .null], [], sM Ln I L c s) Q := by
  obtain ⟨e, rfl⟩ : ∃ e, d = e + 16 := ⟨d - 16, by omega⟩
  exact dd_Rn.go 1 (cf' := (98, [.ref 148, .int a1, .int a2, .int a3, .int a4, .int a5, .null], [.int 0], sM Ln I L c s)) rfl h (by omega)

theorem w_X11_stepNearer_98 {Ln d c s : Nat} {I : Nat → Nat → Int32} {L : Nat → Nat → Int64} {Q : dd_O → Prop} {a1 a2 a3 a4 a5 b0 : Int32} (hd : 28 ≤ d) (h : ((b0 = 0 → ((a5 = a1 → dd_Rn d m_X11_stepNearer (132, [.ref 148, .int a1, .int a2, .int a3, .int a4, .int a5, .int b0], [.int a4], sM Ln I L c s) Q) ∧ (¬ (a5 = a1) → dd_Rn d m_X11_stepNearer (132, [.ref 148, .int a1, .int a2, .int a3, .int a4, .int a5, .int b0], [.int a5], sM Ln I L c s) Q))) ∧ (¬ (b0 = 0) → ((a4 = a1 → dd_Rn d m_X11_stepNearer (118, [.ref 148, .int a1, .int a2, .int a3, .int a4, .int a5, .int b0], [.int a5], sM Ln I L c s) Q) ∧ (¬ (a4 = a1) → dd_Rn d m_X11_stepNearer (118, [.ref 148, .int a1, .int a2, .int a3, .int a4, .int a5, .int b0], [.int a4], sM Ln I L c s) Q))))) : dd_Rn d m_X11_stepNearer (98, [.ref 148, .int a1, .int a2, .int a3, .int a4, .int a5, .null], [.int b0], sM Ln I L c s) Q := by
  obtain ⟨e, rfl⟩ : ∃ e, d = e + 16 := ⟨d - 16, by omega⟩
  refine dd_Rn.ite 2 (c := b0 = 0) (A := (119, [.ref 148, .int a1, .int a2, .int a3, .int a4, .int a5, .int b0], [], sM Ln I L c s)) (B := (105, [.ref 148, .int a1, .int a2, .int a3, .int a4, .int a5, .int b0], [], sM Ln I L c s)) rfl (fun hc => ?_) (fun hc => ?_) (by omega)
  · have h := h.1 hc
    refine dd_Rn.ite 2 (c := a5 = a1) (A := (130, [.ref 148, .int a1, .int a2, .int a3, .int a4, .int a5, .int b0], [], sM Ln I L c s)) (B := (125, [.ref 148, .int a1, .int a2, .int a3, .int a4, .int a5, .int b0], [], sM Ln I L c s)) rfl (fun hc => ?_) (fun hc => ?_) (by omega)
    · have h := h.1 hc
      exact dd_Rn.go 1 (cf' := (132, [.ref 148, .int a1, .int a2, .int a3, .int a4, .int a5, .int b0], [.int a4], sM Ln I L c s)) rfl h (by omega)
    · have h := h.2 hc
      exact dd_Rn.go 2 (cf' := (132, [.ref 148, .int a1, .int a2, .int a3, .int a4, .int a5, .int b0], [.int a5], sM Ln I L c s)) rfl h (by omega)
  · have h := h.2 hc
    refine dd_Rn.ite 2 (c := a4 = a1) (A := (116, [.ref 148, .int a1, .int a2, .int a3, .int a4, .int a5, .int b0], [], sM Ln I L c s)) (B := (111, [.ref 148, .int a1, .int a2, .int a3, .int a4, .int a5, .int b0], [], sM Ln I L c s)) rfl (fun hc => ?_) (fun hc => ?_) (by omega)
    · have h := h.1 hc
      exact dd_Rn.go 1 (cf' := (118, [.ref 148, .int a1, .int a2, .int a3, .int a4, .int a5, .int b0], [.int a5], sM Ln I L c s)) rfl h (by omega)
    · have h := h.2 hc
      exact dd_Rn.go 2 (cf' := (118, [.ref 148, .int a1, .int a2, .int a3, .int a4, .int a5, .int b0], [.int a4], sM Ln I L c s)) rfl h (by omega)

theorem w_X11_stepNearer_118 {Ln d c s : Nat} {I : Nat → Nat → Int32} {L : Nat → Nat → Int64} {Q : dd_O → Prop} {a1 a2 a3 a4 a5 a6 b0 : Int32} (hd : 28 ≤ d) (h : Q (none, .int b0, sM Ln I L c s)) : dd_Rn d m_X11_stepNearer (118, [.ref 148, .int a1, .int a2, .int a3, .int a4, .int a5, .int a6], [.int b0], sM Ln I L c s) Q := by
  obtain ⟨e, rfl⟩ : ∃ e, d = e + 16 := ⟨d - 16, by omega⟩
  exact dd_Rn.retK 0 (pc := 118) (ls := [.ref 148, .int a1, .int a2, .int a3, .int a4, .int a5, .int a6]) (st := [.int b0]) (M := sM Ln I L c s) (o := (none, .int b0, sM Ln I L c s)) rfl rfl h (by omega)

theorem w_X11_stepNearer_132 {Ln d c s : Nat} {I : Nat → Nat → Int32} {L : Nat → Nat → Int64} {Q : dd_O → Prop} {a1 a2 a3 a4 a5 a6 b0 : Int32} (hd : 28 ≤ d) (h : Q (none, .int b0, sM Ln I L c s)) : dd_Rn d m_X11_stepNearer (132, [.ref 148, .int a1, .int a2, .int a3, .int a4, .int a5, .int a6], [.int b0], sM Ln I L c s) Q := by
  obtain ⟨e, rfl⟩ : ∃ e, d = e + 16 := ⟨d - 16, by omega⟩
  exact dd_Rn.retK 0 (pc := 132) (ls := [.ref 148, .int a1, .int a2, .int a3, .int a4, .int a5, .int a6]) (st := [.int b0]) (M := sM Ln I L c s) (o := (none, .int b0, sM Ln I L c s)) rfl rfl h (by omega)

theorem w_X11_comesBy_0 {Ln d c s : Nat} {I : Nat → Nat → Int32} {L : Nat → Nat → Int64} {Q : dd_O → Prop} {a1 a2 : Int32} (hd : 28 ≤ d) (h : ((a2 = 0 → dd_Ev (d - 1) m_X11_stepNearer [.ref 148, .int a1] (sM Ln I L c s) (dd_RI Ln c s (fun x1 I1 L1 => Q (none, .int x1, sM Ln I1 L1 c s)))) ∧ (¬ (a2 = 0) → (((4 : Int32) < a2 → Q (none, .int a1, sM Ln I L c s)) ∧ (¬ ((4 : Int32) < a2) → dd_Ev (d - 1) m_X11_stepTo [.ref 148, .int a1, .int a2] (sM Ln I L c s) (dd_RI Ln c s (fun x2 I2 L2 => Q (none, .int x2, sM Ln I2 L2 c s)))))))) : dd_Ev d m_X11_comesBy [.ref 148, .int a1, .int a2] (sM Ln I L c s) Q := by
  obtain ⟨e, rfl⟩ : ∃ e, d = e + 16 := ⟨d - 16, by omega⟩
  show dd_Rn (e + 16) m_X11_comesBy (0, [.ref 148, .int a1, .int a2], [], sM Ln I L c s) Q
  refine dd_Rn.ite 1 (c := a2 = 0) (A := (4, [.ref 148, .int a1, .int a2], [], sM Ln I L c s)) (B := (12, [.ref 148, .int a1, .int a2], [], sM Ln I L c s)) rfl (fun hc => ?_) (fun hc => ?_) (by omega)
  · have h := h.1 hc
    refine dd_Rn.cI 2 (pc := 6) (ls := [.ref 148, .int a1, .int a2]) (st := [.int a1, .ref 148]) (x := m_X11_stepNearer) (as := [.ref 148, .int a1]) (rest := []) rfl rfl rfl rfl h ?_
    intro x1 I1 L1 h
    show dd_Rn (e + 16) m_X11_comesBy (9, [.ref 148, .int a1, .int a2], [.int x1], sM Ln I1 L1 c s) _
    exact dd_Rn.retK 1 (pc := 27) (ls := [.ref 148, .int a1, .int a2]) (st := [.int x1]) (M := sM Ln I1 L1 c s) (o := (none, .int x1, sM Ln I1 L1 c s)) rfl rfl h (by omega)
  · have h := h.2 hc
    refine dd_Rn.ite 2 (c := (4 : Int32) < a2) (A := (26, [.ref 148, .int a1, .int a2], [], sM Ln I L c s)) (B := (17, [.ref 148, .int a1, .int a2], [], sM Ln I L c s)) rfl (fun hc => ?_) (fun hc => ?_) (by omega)
    · have h := h.1 hc
      exact dd_Rn.retK 1 (pc := 27) (ls := [.ref 148, .int a1, .int a2]) (st := [.int a1]) (M := sM Ln I L c s) (o := (none, .int a1, sM Ln I L c s)) rfl rfl h (by omega)
    · have h := h.2 hc
      refine dd_Rn.cI 3 (pc := 20) (ls := [.ref 148, .int a1, .int a2]) (st := [.int a2, .int a1, .ref 148]) (x := m_X11_stepTo) (as := [.ref 148, .int a1, .int a2]) (rest := []) rfl rfl rfl rfl h ?_
      intro x2 I2 L2 h
      show dd_Rn (e + 16) m_X11_comesBy (23, [.ref 148, .int a1, .int a2], [.int x2], sM Ln I2 L2 c s) _
      exact dd_Rn.retK 1 (pc := 27) (ls := [.ref 148, .int a1, .int a2]) (st := [.int x2]) (M := sM Ln I2 L2 c s) (o := (none, .int x2, sM Ln I2 L2 c s)) rfl rfl h (by omega)

theorem w_X11_isThere_0 {Ln d c s : Nat} {I : Nat → Nat → Int32} {L : Nat → Nat → Int64} {Q : dd_O → Prop} {a1 a2 : Int32} (hd : 28 ≤ d) (h : ((0 ≤ ((187 : Int32) + ((5 : Int32) * a1)) + 0 ∧ tn (((187 : Int32) + ((5 : Int32) * a1)) + 0) < 2220) ∧ ((a2 = (upd (I 149) (tn (((187 : Int32) + ((5 : Int32) * a1)) + 0)) a2) 4 → ((0 ≤ ((187 : Int32) + ((5 : Int32) * a1)) + 3 ∧ tn (((187 : Int32) + ((5 : Int32) * a1)) + 3) < 2220) ∧ Q (none, .null, sM Ln (dd_u (dd_u I 149 (upd (I 149) (tn (((187 : Int32) + ((5 : Int32) * a1)) + 0)) a2)) 149 (upd (upd (I 149) (tn (((187 : Int32) + ((5 : Int32) * a1)) + 0)) a2) (tn (((187 : Int32) + ((5 : Int32) * a1)) + 3)) 1)) L c s))) ∧ (¬ (a2 = (upd (I 149) (tn (((187 : Int32) + ((5 : Int32) * a1)) + 0)) a2) 4) → Q (none, .null, sM Ln (dd_u I 149 (upd (I 149) (tn (((187 : Int32) + ((5 : Int32) * a1)) + 0)) a2)) L c s))))) : dd_Ev d m_X11_isThere [.ref 148, .int a1, .int a2] (sM Ln I L c s) Q := by
  obtain ⟨e, rfl⟩ : ∃ e, d = e + 16 := ⟨d - 16, by omega⟩
  show dd_Rn (e + 16) m_X11_isThere (0, [.ref 148, .int a1, .int a2], [], sM Ln I L c s) Q
  refine dd_Rn.sub 4 (pc := 6) (ls := [.ref 148, .int a1, .int a2]) (st := [.int 0, .int a1, .ref 149]) (M := sM Ln I L c s) (x := m_X11_at) (as := [.int a1, .int 0]) (rest := [.ref 149]) rfl rfl rfl rfl ?_
  show dd_Rn (e + 15) m_X11_at (0, [.int a1, .int 0], [], sM Ln I L c s) _
  refine dd_Rn.retK 7 (pc := 9) (ls := [.int a1, .int 0]) (st := [.int (((187 : Int32) + ((5 : Int32) * a1)) + 0)]) (M := sM Ln I L c s) (o := (none, .int (((187 : Int32) + ((5 : Int32) * a1)) + 0), sM Ln I L c s)) rfl rfl (dd_Af.ret rfl ?_) (by omega)
  show dd_Rn (e + 16) m_X11_isThere (9, [.ref 148, .int a1, .int a2], [.int (((187 : Int32) + ((5 : Int32) * a1)) + 0), .ref 149], sM Ln I L c s) _
  obtain ⟨hc, h⟩ := h
  refine dd_Rn.chk 1 (c := 0 ≤ ((187 : Int32) + ((5 : Int32) * a1)) + 0 ∧ tn (((187 : Int32) + ((5 : Int32) * a1)) + 0) < 2220) (A := (11, [.ref 148, .int a1, .int a2], [], sM Ln (dd_u I 149 (upd (I 149) (tn (((187 : Int32) + ((5 : Int32) * a1)) + 0)) a2)) L c s)) rfl hc ?_ (by omega)
  refine dd_Rn.ite 5 (c := a2 = (upd (I 149) (tn (((187 : Int32) + ((5 : Int32) * a1)) + 0)) a2) 4) (A := (21, [.ref 148, .int a1, .int a2], [], sM Ln (dd_u I 149 (upd (I 149) (tn (((187 : Int32) + ((5 : Int32) * a1)) + 0)) a2)) L c s)) (B := (32, [.ref 148, .int a1, .int a2], [], sM Ln (dd_u I 149 (upd (I 149) (tn (((187 : Int32) + ((5 : Int32) * a1)) + 0)) a2)) L c s)) rfl (fun hc => ?_) (fun hc => ?_) (by omega)
  · have h := h.1 hc
    refine dd_Rn.sub 4 (pc := 27) (ls := [.ref 148, .int a1, .int a2]) (st := [.int 3, .int a1, .ref 149]) (M := sM Ln (dd_u I 149 (upd (I 149) (tn (((187 : Int32) + ((5 : Int32) * a1)) + 0)) a2)) L c s) (x := m_X11_at) (as := [.int a1, .int 3]) (rest := [.ref 149]) rfl rfl rfl rfl ?_
    show dd_Rn (e + 15) m_X11_at (0, [.int a1, .int 3], [], sM Ln (dd_u I 149 (upd (I 149) (tn (((187 : Int32) + ((5 : Int32) * a1)) + 0)) a2)) L c s) _
    refine dd_Rn.retK 7 (pc := 9) (ls := [.int a1, .int 3]) (st := [.int (((187 : Int32) + ((5 : Int32) * a1)) + 3)]) (M := sM Ln (dd_u I 149 (upd (I 149) (tn (((187 : Int32) + ((5 : Int32) * a1)) + 0)) a2)) L c s) (o := (none, .int (((187 : Int32) + ((5 : Int32) * a1)) + 3), sM Ln (dd_u I 149 (upd (I 149) (tn (((187 : Int32) + ((5 : Int32) * a1)) + 0)) a2)) L c s)) rfl rfl (dd_Af.ret rfl ?_) (by omega)
    show dd_Rn (e + 16) m_X11_isThere (30, [.ref 148, .int a1, .int a2], [.int (((187 : Int32) + ((5 : Int32) * a1)) + 3), .ref 149], sM Ln (dd_u I 149 (upd (I 149) (tn (((187 : Int32) + ((5 : Int32) * a1)) + 0)) a2)) L c s) _
    obtain ⟨hc, h⟩ := h
    refine dd_Rn.chk 1 (c := 0 ≤ ((187 : Int32) + ((5 : Int32) * a1)) + 3 ∧ tn (((187 : Int32) + ((5 : Int32) * a1)) + 3) < 2220) (A := (32, [.ref 148, .int a1, .int a2], [], sM Ln (dd_u (dd_u I 149 (upd (I 149) (tn (((187 : Int32) + ((5 : Int32) * a1)) + 0)) a2)) 149 (upd (upd (I 149) (tn (((187 : Int32) + ((5 : Int32) * a1)) + 0)) a2) (tn (((187 : Int32) + ((5 : Int32) * a1)) + 3)) 1)) L c s)) rfl hc ?_ (by omega)
    exact dd_Rn.retK 0 (pc := 32) (ls := [.ref 148, .int a1, .int a2]) (st := []) (M := sM Ln (dd_u (dd_u I 149 (upd (I 149) (tn (((187 : Int32) + ((5 : Int32) * a1)) + 0)) a2)) 149 (upd (upd (I 149) (tn (((187 : Int32) + ((5 : Int32) * a1)) + 0)) a2) (tn (((187 : Int32) + ((5 : Int32) * a1)) + 3)) 1)) L c s) (o := (none, .null, sM Ln (dd_u (dd_u I 149 (upd (I 149) (tn (((187 : Int32) + ((5 : Int32) * a1)) + 0)) a2)) 149 (upd (upd (I 149) (tn (((187 : Int32) + ((5 : Int32) * a1)) + 0)) a2) (tn (((187 : Int32) + ((5 : Int32) * a1)) + 3)) 1)) L c s)) rfl rfl h (by omega)
  · have h := h.2 hc
    exact dd_Rn.retK 0 (pc := 32) (ls := [.ref 148, .int a1, .int a2]) (st := []) (M := sM Ln (dd_u I 149 (upd (I 149) (tn (((187 : Int32) + ((5 : Int32) * a1)) + 0)) a2)) L c s) (o := (none, .null, sM Ln (dd_u I 149 (upd (I 149) (tn (((187 : Int32) + ((5 : Int32) * a1)) + 0)) a2)) L c s)) rfl rfl h (by omega)

theorem w_X11_goesBy_0 {Ln d c s : Nat} {I : Nat → Nat → Int32} {L : Nat → Nat → Int64} {Q : dd_O → Prop} {a1 a2 : Int32} (hd : 28 ≤ d) (h : ((0 ≤ ((187 : Int32) + ((5 : Int32) * a1)) + 3 ∧ tn (((187 : Int32) + ((5 : Int32) * a1)) + 3) < 2220) ∧ ((I 149 (tn (((187 : Int32) + ((5 : Int32) * a1)) + 3)) = 1 → Q (none, .int 0, sM Ln I L c s)) ∧ (¬ (I 149 (tn (((187 : Int32) + ((5 : Int32) * a1)) + 3)) = 1) → dd_Ev (d - 1) m_X11_staysBy [.ref 148, .int a1, .int a2] (sM Ln I L c s) (dd_RI Ln c s (fun x1 I1 L1 => ((x1 = 0 → dd_Ev (d - 1) m_X11_hearsBy [.ref 148, .int a1, .int a2] (sM Ln I1 L1 c s) (dd_RI Ln c s (fun x2 I2 L2 => ((x2 = 0 → Q (none, .int 1, sM Ln I2 L2 c s)) ∧ (¬ (x2 = 0) → ((0 ≤ ((187 : Int32) + ((5 : Int32) * a1)) + 0 ∧ tn (((187 : Int32) + ((5 : Int32) * a1)) + 0) < 2220) ∧ dd_Ev (d - 1) m_X11_comesBy [.ref 148, .int (I2 149 (tn (((187 : Int32) + ((5 : Int32) * a1)) + 0))), .int a2] (sM Ln I2 L2 c s) (dd_RI Ln c s (fun x3 I3 L3 => dd_Ev (d - 1) m_X11_isThere [.ref 148, .int a1, .int x3] (sM Ln I3 L3 c s) (dd_RV Ln c s (fun I4 L4 => Q (none, .int 0, sM Ln I4 L4 c s))))))))))) ∧ (¬ (x1 = 0) → Q (none, .int 0, sM Ln I1 L1 c s))))))))) : dd_Ev d m_X11_goesBy [.ref 148, .int a1, .int a2] (sM Ln I L c s) Q := by
  obtain ⟨e, rfl⟩ : ∃ e, d = e + 16 := ⟨d - 16, by omega⟩
  show dd_Rn (e + 16) m_X11_goesBy (0, [.ref 148, .int a1, .int a2], [], sM Ln I L c s) Q
  refine dd_Rn.sub 2 (pc := 2) (ls := [.ref 148, .int a1, .int a2]) (st := [.int a1, .ref 148]) (M := sM Ln I L c s) (x := m_X11_isIn) (as := [.ref 148, .int a1]) (rest := []) rfl rfl rfl rfl ?_
  show dd_Rn (e + 15) m_X11_isIn (0, [.ref 148, .int a1], [], sM Ln I L c s) _
  refine dd_Rn.sub 3 (pc := 3) (ls := [.ref 148, .int a1]) (st := [.int 3, .int a1, .ref 148]) (M := sM Ln I L c s) (x := m_X11_of) (as := [.ref 148, .int a1, .int 3]) (rest := []) rfl rfl rfl rfl ?_
  show dd_Rn (e + 14) m_X11_of (0, [.ref 148, .int a1, .int 3], [], sM Ln I L c s) _
  refine dd_Rn.sub 4 (pc := 6) (ls := [.ref 148, .int a1, .int 3]) (st := [.int 3, .int a1, .ref 149]) (M := sM Ln I L c s) (x := m_X11_at) (as := [.int a1, .int 3]) (rest := [.ref 149]) rfl rfl rfl rfl ?_
  show dd_Rn (e + 13) m_X11_at (0, [.int a1, .int 3], [], sM Ln I L c s) _
  refine dd_Rn.retK 7 (pc := 9) (ls := [.int a1, .int 3]) (st := [.int (((187 : Int32) + ((5 : Int32) * a1)) + 3)]) (M := sM Ln I L c s) (o := (none, .int (((187 : Int32) + ((5 : Int32) * a1)) + 3), sM Ln I L c s)) rfl rfl (dd_Af.ret rfl ?_) (by omega)
  show dd_Rn (e + 14) m_X11_of (9, [.ref 148, .int a1, .int 3], [.int (((187 : Int32) + ((5 : Int32) * a1)) + 3), .ref 149], sM Ln I L c s) _
  obtain ⟨hc, h⟩ := h
  refine dd_Rn.chk 0 (c := 0 ≤ ((187 : Int32) + ((5 : Int32) * a1)) + 3 ∧ tn (((187 : Int32) + ((5 : Int32) * a1)) + 3) < 2220) (A := (10, [.ref 148, .int a1, .int 3], [.int (I 149 (tn (((187 : Int32) + ((5 : Int32) * a1)) + 3)))], sM Ln I L c s)) rfl hc ?_ (by omega)
  refine dd_Rn.retK 0 (pc := 10) (ls := [.ref 148, .int a1, .int 3]) (st := [.int (I 149 (tn (((187 : Int32) + ((5 : Int32) * a1)) + 3)))]) (M := sM Ln I L c s) (o := (none, .int (I 149 (tn (((187 : Int32) + ((5 : Int32) * a1)) + 3))), sM Ln I L c s)) rfl rfl (dd_Af.ret rfl ?_) (by omega)
  show dd_Rn (e + 15) m_X11_isIn (6, [.ref 148, .int a1], [.int (I 149 (tn (((187 : Int32) + ((5 : Int32) * a1)) + 3)))], sM Ln I L c s) _
  refine dd_Rn.ite 1 (c := I 149 (tn (((187 : Int32) + ((5 : Int32) * a1)) + 3)) = 1) (A := (10, [.ref 148, .int a1], [], sM Ln I L c s)) (B := (14, [.ref 148, .int a1], [], sM Ln I L c s)) rfl (fun hc => ?_) (fun hc => ?_) (by omega)
  · have h := h.1 hc
    refine dd_Rn.retK 2 (pc := 15) (ls := [.ref 148, .int a1]) (st := [.int 1]) (M := sM Ln I L c s) (o := (none, .int 1, sM Ln I L c s)) rfl rfl (dd_Af.ret rfl ?_) (by omega)
    show dd_Rn (e + 16) m_X11_goesBy (5, [.ref 148, .int a1, .int a2], [.int 1], sM Ln I L c s) _
    exact dd_Rn.retK 2 (pc := 18) (ls := [.ref 148, .int a1, .int a2]) (st := [.int 0]) (M := sM Ln I L c s) (o := (none, .int 0, sM Ln I L c s)) rfl rfl h (by omega)
  · have h := h.2 hc
    refine dd_Rn.retK 1 (pc := 15) (ls := [.ref 148, .int a1]) (st := [.int 0]) (M := sM Ln I L c s) (o := (none, .int 0, sM Ln I L c s)) rfl rfl (dd_Af.ret rfl ?_) (by omega)
    show dd_Rn (e + 16) m_X11_goesBy (5, [.ref 148, .int a1, .int a2], [.int 0], sM Ln I L c s) _
    refine dd_Rn.cI 4 (pc := 11) (ls := [.ref 148, .int a1, .int a2]) (st := [.int a2, .int a1, .ref 148]) (x := m_X11_staysBy) (as := [.ref 148, .int a1, .int a2]) (rest := []) rfl rfl rfl rfl h ?_
    intro x1 I1 L1 h
    show dd_Rn (e + 16) m_X11_goesBy (14, [.ref 148, .int a1, .int a2], [.int x1], sM Ln I1 L1 c s) _
    refine dd_Rn.ite 0 (c := x1 = 0) (A := (19, [.ref 148, .int a1, .int a2], [], sM Ln I1 L1 c s)) (B := (17, [.ref 148, .int a1, .int a2], [], sM Ln I1 L1 c s)) rfl (fun hc => ?_) (fun hc => ?_) (by omega)
    · have h := h.1 hc
      refine dd_Rn.cI 3 (pc := 22) (ls := [.ref 148, .int a1, .int a2]) (st := [.int a2, .int a1, .ref 148]) (x := m_X11_hearsBy) (as := [.ref 148, .int a1, .int a2]) (rest := []) rfl rfl rfl rfl h ?_
      intro x2 I2 L2 h
      show dd_Rn (e + 16) m_X11_goesBy (25, [.ref 148, .int a1, .int a2], [.int x2], sM Ln I2 L2 c s) _
      refine dd_Rn.ite 0 (c := x2 = 0) (A := (28, [.ref 148, .int a1, .int a2], [], sM Ln I2 L2 c s)) (B := (30, [.ref 148, .int a1, .int a2], [], sM Ln I2 L2 c s)) rfl (fun hc => ?_) (fun hc => ?_) (by omega)
      · have h := h.1 hc
        exact dd_Rn.retK 1 (pc := 29) (ls := [.ref 148, .int a1, .int a2]) (st := [.int 1]) (M := sM Ln I2 L2 c s) (o := (none, .int 1, sM Ln I2 L2 c s)) rfl rfl h (by omega)
      · have h := h.2 hc
        refine dd_Rn.sub 6 (pc := 36) (ls := [.ref 148, .int a1, .int a2]) (st := [.int 0, .int a1, .ref 148, .ref 148, .int a1, .ref 148]) (M := sM Ln I2 L2 c s) (x := m_X11_of) (as := [.ref 148, .int a1, .int 0]) (rest := [.ref 148, .int a1, .ref 148]) rfl rfl rfl rfl ?_
        show dd_Rn (e + 15) m_X11_of (0, [.ref 148, .int a1, .int 0], [], sM Ln I2 L2 c s) _
        refine dd_Rn.sub 4 (pc := 6) (ls := [.ref 148, .int a1, .int 0]) (st := [.int 0, .int a1, .ref 149]) (M := sM Ln I2 L2 c s) (x := m_X11_at) (as := [.int a1, .int 0]) (rest := [.ref 149]) rfl rfl rfl rfl ?_
        show dd_Rn (e + 14) m_X11_at (0, [.int a1, .int 0], [], sM Ln I2 L2 c s) _
        refine dd_Rn.retK 7 (pc := 9) (ls := [.int a1, .int 0]) (st := [.int (((187 : Int32) + ((5 : Int32) * a1)) + 0)]) (M := sM Ln I2 L2 c s) (o := (none, .int (((187 : Int32) + ((5 : Int32) * a1)) + 0), sM Ln I2 L2 c s)) rfl rfl (dd_Af.ret rfl ?_) (by omega)
        show dd_Rn (e + 15) m_X11_of (9, [.ref 148, .int a1, .int 0], [.int (((187 : Int32) + ((5 : Int32) * a1)) + 0), .ref 149], sM Ln I2 L2 c s) _
        obtain ⟨hc, h⟩ := h
        refine dd_Rn.chk 0 (c := 0 ≤ ((187 : Int32) + ((5 : Int32) * a1)) + 0 ∧ tn (((187 : Int32) + ((5 : Int32) * a1)) + 0) < 2220) (A := (10, [.ref 148, .int a1, .int 0], [.int (I2 149 (tn (((187 : Int32) + ((5 : Int32) * a1)) + 0)))], sM Ln I2 L2 c s)) rfl hc ?_ (by omega)
        refine dd_Rn.retK 0 (pc := 10) (ls := [.ref 148, .int a1, .int 0]) (st := [.int (I2 149 (tn (((187 : Int32) + ((5 : Int32) * a1)) + 0)))]) (M := sM Ln I2 L2 c s) (o := (none, .int (I2 149 (tn (((187 : Int32) + ((5 : Int32) * a1)) + 0))), sM Ln I2 L2 c s)) rfl rfl (dd_Af.ret rfl ?_) (by omega)
        show dd_Rn (e + 16) m_X11_goesBy (39, [.ref 148, .int a1, .int a2], [.int (I2 149 (tn (((187 : Int32) + ((5 : Int32) * a1)) + 0))), .ref 148, .int a1, .ref 148], sM Ln I2 L2 c s) _
        refine dd_Rn.cI 1 (pc := 40) (ls := [.ref 148, .int a1, .int a2]) (st := [.int a2, .int (I2 149 (tn (((187 : Int32) + ((5 : Int32) * a1)) + 0))), .ref 148, .int a1, .ref 148]) (x := m_X11_comesBy) (as := [.ref 148, .int (I2 149 (tn (((187 : Int32) + ((5 : Int32) * a1)) + 0))), .int a2]) (rest := [.int a1, .ref 148]) rfl rfl rfl rfl h ?_
        intro x3 I3 L3 h
        show dd_Rn (e + 16) m_X11_goesBy (43, [.ref 148, .int a1, .int a2], [.int x3, .int a1, .ref 148], sM Ln I3 L3 c s) _
        refine dd_Rn.cV 0 (pc := 43) (ls := [.ref 148, .int a1, .int a2]) (st := [.int x3, .int a1, .ref 148]) (x := m_X11_isThere) (as := [.ref 148, .int a1, .int x3]) (rest := []) rfl rfl rfl rfl h ?_
        intro I4 L4 h
        show dd_Rn (e + 16) m_X11_goesBy (46, [.ref 148, .int a1, .int a2], [], sM Ln I4 L4 c s) _
        exact dd_Rn.retK 1 (pc := 47) (ls := [.ref 148, .int a1, .int a2]) (st := [.int 0]) (M := sM Ln I4 L4 c s) (o := (none, .int 0, sM Ln I4 L4 c s)) rfl rfl h (by omega)
    · have h := h.2 hc
      exact dd_Rn.retK 1 (pc := 18) (ls := [.ref 148, .int a1, .int a2]) (st := [.int 0]) (M := sM Ln I1 L1 c s) (o := (none, .int 0, sM Ln I1 L1 c s)) rfl rfl h (by omega)

theorem w_X11_tells_0 {Ln d c s : Nat} {I : Nat → Nat → Int32} {L : Nat → Nat → Int64} {Q : dd_O → Prop} {a1 a2 : Int32} (hd : 28 ≤ d) (h : dd_Rn d m_X11_tells (4, [.ref 148, .int a1, .int a2, .int 299], [], sM Ln I L c s) Q) : dd_Ev d m_X11_tells [.ref 148, .int a1, .int a2] (sM Ln I L c s) Q := by
  obtain ⟨e, rfl⟩ : ∃ e, d = e + 16 := ⟨d - 16, by omega⟩
  show dd_Rn (e + 16) m_X11_tells (0, [.ref 148, .int a1, .int a2, .null], [], sM Ln I L c s) Q
  exact dd_Rn.go 2 (cf' := (4, [.ref 148, .int a1, .int a2, .int 299], [], sM Ln I L c s)) rfl h (by omega)

theorem w_X11_tells_4 {Ln d c s : Nat} {I : Nat → Nat → Int32} {L : Nat → Nat → Int64} {Q : dd_O → Prop} {a1 a2 a3 : Int32} (hd : 28 ≤ d) (h : ((a3 < 5 → ((0 ≤ ((187 : Int32) + ((5 : Int32) * a1)) + 0 ∧ tn (((187 : Int32) + ((5 : Int32) * a1)) + 0) < 2220) ∧ Q (none, .null, sM Ln (dd_u (dd_u (dd_u (dd_u (dd_u (dd_u I 149 (upd (I 149) 222 (I 149 8))) 149 (upd (upd (I 149) 222 (I 149 8)) 223 (I 149 7))) 149 (upd (upd (upd (I 149) 222 (I 149 8)) 223 (I 149 7)) 224 a1)) 149 (upd (upd (upd (upd (I 149) 222 (I 149 8)) 223 (I 149 7)) 224 a1) 225 a2)) 149 (upd (upd (upd (upd (upd (I 149) 222 (I 149 8)) 223 (I 149 7)) 224 a1) 225 a2) 226 ((upd (upd (upd (upd (I 149) 222 (I 149 8)) 223 (I 149 7)) 224 a1) 225 a2) (tn (((187 : Int32) + ((5 : Int32) * a1)) + 0))))) 149 (upd (upd (upd (upd (upd (upd (I 149) 222 (I 149 8)) 223 (I 149 7)) 224 a1) 225 a2) 226 ((upd (upd (upd (upd (I 149) 222 (I 149 8)) 223 (I 149 7)) 224 a1) 225 a2) (tn (((187 : Int32) + ((5 : Int32) * a1)) + 0)))) 9 (if (I 149 9) + 1 < 60 then (I 149 9) + 1 else 60))) L c s))) ∧ (¬ (a3 < 5) → ((0 ≤ ((222 : Int32) + a3) - 5 ∧ tn (((222 : Int32) + a3) - 5) < 2220) ∧ ((0 ≤ (222 : Int32) + a3 ∧ tn ((222 : Int32) + a3) < 2220) ∧ dd_Rn d m_X11_tells (4, [.ref 148, .int a1, .int a2, .int (a3 + (-1))], [], sM Ln (dd_u I 149 (upd (I 149) (tn ((222 : Int32) + a3)) (I 149 (tn (((222 : Int32) + a3) - 5))))) L c s) Q))))) : dd_Rn d m_X11_tells (4, [.ref 148, .int a1, .int a2, .int a3], [], sM Ln I L c s) Q := by
  obtain ⟨e, rfl⟩ : ∃ e, d = e + 16 := ⟨d - 16, by omega⟩
  refine dd_Rn.ite 2 (c := a3 < 5) (A := (37, [.ref 148, .int a1, .int a2, .int a3], [], sM Ln I L c s)) (B := (9, [.ref 148, .int a1, .int a2, .int a3], [], sM Ln I L c s)) rfl (fun hc => ?_) (fun hc => ?_) (by omega)
  · have h := h.1 hc
    refine dd_Rn.sub 32 (pc := 95) (ls := [.ref 148, .int a1, .int a2, .int a3]) (st := [.int 0, .int a1, .ref 148, .int 226, .ref 149]) (M := sM Ln (dd_u (dd_u (dd_u (dd_u I 149 (upd (I 149) 222 (I 149 8))) 149 (upd (upd (I 149) 222 (I 149 8)) 223 (I 149 7))) 149 (upd (upd (upd (I 149) 222 (I 149 8)) 223 (I 149 7)) 224 a1)) 149 (upd (upd (upd (upd (I 149) 222 (I 149 8)) 223 (I 149 7)) 224 a1) 225 a2)) L c s) (x := m_X11_of) (as := [.ref 148, .int a1, .int 0]) (rest := [.int 226, .ref 149]) rfl rfl rfl rfl ?_
    show dd_Rn (e + 15) m_X11_of (0, [.ref 148, .int a1, .int 0], [], sM Ln (dd_u (dd_u (dd_u (dd_u I 149 (upd (I 149) 222 (I 149 8))) 149 (upd (upd (I 149) 222 (I 149 8)) 223 (I 149 7))) 149 (upd (upd (upd (I 149) 222 (I 149 8)) 223 (I 149 7)) 224 a1)) 149 (upd (upd (upd (upd (I 149) 222 (I 149 8)) 223 (I 149 7)) 224 a1) 225 a2)) L c s) _
    refine dd_Rn.sub 4 (pc := 6) (ls := [.ref 148, .int a1, .int 0]) (st := [.int 0, .int a1, .ref 149]) (M := sM Ln (dd_u (dd_u (dd_u (dd_u I 149 (upd (I 149) 222 (I 149 8))) 149 (upd (upd (I 149) 222 (I 149 8)) 223 (I 149 7))) 149 (upd (upd (upd (I 149) 222 (I 149 8)) 223 (I 149 7)) 224 a1)) 149 (upd (upd (upd (upd (I 149) 222 (I 149 8)) 223 (I 149 7)) 224 a1) 225 a2)) L c s) (x := m_X11_at) (as := [.int a1, .int 0]) (rest := [.ref 149]) rfl rfl rfl rfl ?_
    show dd_Rn (e + 14) m_X11_at (0, [.int a1, .int 0], [], sM Ln (dd_u (dd_u (dd_u (dd_u I 149 (upd (I 149) 222 (I 149 8))) 149 (upd (upd (I 149) 222 (I 149 8)) 223 (I 149 7))) 149 (upd (upd (upd (I 149) 222 (I 149 8)) 223 (I 149 7)) 224 a1)) 149 (upd (upd (upd (upd (I 149) 222 (I 149 8)) 223 (I 149 7)) 224 a1) 225 a2)) L c s) _
    refine dd_Rn.retK 7 (pc := 9) (ls := [.int a1, .int 0]) (st := [.int (((187 : Int32) + ((5 : Int32) * a1)) + 0)]) (M := sM Ln (dd_u (dd_u (dd_u (dd_u I 149 (upd (I 149) 222 (I 149 8))) 149 (upd (upd (I 149) 222 (I 149 8)) 223 (I 149 7))) 149 (upd (upd (upd (I 149) 222 (I 149 8)) 223 (I 149 7)) 224 a1)) 149 (upd (upd (upd (upd (I 149) 222 (I 149 8)) 223 (I 149 7)) 224 a1) 225 a2)) L c s) (o := (none, .int (((187 : Int32) + ((5 : Int32) * a1)) + 0), sM Ln (dd_u (dd_u (dd_u (dd_u I 149 (upd (I 149) 222 (I 149 8))) 149 (upd (upd (I 149) 222 (I 149 8)) 223 (I 149 7))) 149 (upd (upd (upd (I 149) 222 (I 149 8)) 223 (I 149 7)) 224 a1)) 149 (upd (upd (upd (upd (I 149) 222 (I 149 8)) 223 (I 149 7)) 224 a1) 225 a2)) L c s)) rfl rfl (dd_Af.ret rfl ?_) (by omega)
    show dd_Rn (e + 15) m_X11_of (9, [.ref 148, .int a1, .int 0], [.int (((187 : Int32) + ((5 : Int32) * a1)) + 0), .ref 149], sM Ln (dd_u (dd_u (dd_u (dd_u I 149 (upd (I 149) 222 (I 149 8))) 149 (upd (upd (I 149) 222 (I 149 8)) 223 (I 149 7))) 149 (upd (upd (upd (I 149) 222 (I 149 8)) 223 (I 149 7)) 224 a1)) 149 (upd (upd (upd (upd (I 149) 222 (I 149 8)) 223 (I 149 7)) 224 a1) 225 a2)) L c s) _
    obtain ⟨hc, h⟩ := h
    refine dd_Rn.chk 0 (c := 0 ≤ ((187 : Int32) + ((5 : Int32) * a1)) + 0 ∧ tn (((187 : Int32) + ((5 : Int32) * a1)) + 0) < 2220) (A := (10, [.ref 148, .int a1, .int 0], [.int ((upd (upd (upd (upd (I 149) 222 (I 149 8)) 223 (I 149 7)) 224 a1) 225 a2) (tn (((187 : Int32) + ((5 : Int32) * a1)) + 0)))], sM Ln (dd_u (dd_u (dd_u (dd_u I 149 (upd (I 149) 222 (I 149 8))) 149 (upd (upd (I 149) 222 (I 149 8)) 223 (I 149 7))) 149 (upd (upd (upd (I 149) 222 (I 149 8)) 223 (I 149 7)) 224 a1)) 149 (upd (upd (upd (upd (I 149) 222 (I 149 8)) 223 (I 149 7)) 224 a1) 225 a2)) L c s)) rfl hc ?_ (by omega)
    refine dd_Rn.retK 0 (pc := 10) (ls := [.ref 148, .int a1, .int 0]) (st := [.int ((upd (upd (upd (upd (I 149) 222 (I 149 8)) 223 (I 149 7)) 224 a1) 225 a2) (tn (((187 : Int32) + ((5 : Int32) * a1)) + 0)))]) (M := sM Ln (dd_u (dd_u (dd_u (dd_u I 149 (upd (I 149) 222 (I 149 8))) 149 (upd (upd (I 149) 222 (I 149 8)) 223 (I 149 7))) 149 (upd (upd (upd (I 149) 222 (I 149 8)) 223 (I 149 7)) 224 a1)) 149 (upd (upd (upd (upd (I 149) 222 (I 149 8)) 223 (I 149 7)) 224 a1) 225 a2)) L c s) (o := (none, .int ((upd (upd (upd (upd (I 149) 222 (I 149 8)) 223 (I 149 7)) 224 a1) 225 a2) (tn (((187 : Int32) + ((5 : Int32) * a1)) + 0))), sM Ln (dd_u (dd_u (dd_u (dd_u I 149 (upd (I 149) 222 (I 149 8))) 149 (upd (upd (I 149) 222 (I 149 8)) 223 (I 149 7))) 149 (upd (upd (upd (I 149) 222 (I 149 8)) 223 (I 149 7)) 224 a1)) 149 (upd (upd (upd (upd (I 149) 222 (I 149 8)) 223 (I 149 7)) 224 a1) 225 a2)) L c s)) rfl rfl (dd_Af.ret rfl ?_) (by omega)
    show dd_Rn (e + 16) m_X11_tells (98, [.ref 148, .int a1, .int a2, .int a3], [.int ((upd (upd (upd (upd (I 149) 222 (I 149 8)) 223 (I 149 7)) 224 a1) 225 a2) (tn (((187 : Int32) + ((5 : Int32) * a1)) + 0))), .int 226, .ref 149], sM Ln (dd_u (dd_u (dd_u (dd_u I 149 (upd (I 149) 222 (I 149 8))) 149 (upd (upd (I 149) 222 (I 149 8)) 223 (I 149 7))) 149 (upd (upd (upd (I 149) 222 (I 149 8)) 223 (I 149 7)) 224 a1)) 149 (upd (upd (upd (upd (I 149) 222 (I 149 8)) 223 (I 149 7)) 224 a1) 225 a2)) L c s) _
    exact dd_Rn.retK 13 (pc := 120) (ls := [.ref 148, .int a1, .int a2, .int a3]) (st := []) (M := sM Ln (dd_u (dd_u (dd_u (dd_u (dd_u (dd_u I 149 (upd (I 149) 222 (I 149 8))) 149 (upd (upd (I 149) 222 (I 149 8)) 223 (I 149 7))) 149 (upd (upd (upd (I 149) 222 (I 149 8)) 223 (I 149 7)) 224 a1)) 149 (upd (upd (upd (upd (I 149) 222 (I 149 8)) 223 (I 149 7)) 224 a1) 225 a2)) 149 (upd (upd (upd (upd (upd (I 149) 222 (I 149 8)) 223 (I 149 7)) 224 a1) 225 a2) 226 ((upd (upd (upd (upd (I 149) 222 (I 149 8)) 223 (I 149 7)) 224 a1) 225 a2) (tn (((187 : Int32) + ((5 : Int32) * a1)) + 0))))) 149 (upd (upd (upd (upd (upd (upd (I 149) 222 (I 149 8)) 223 (I 149 7)) 224 a1) 225 a2) 226 ((upd (upd (upd (upd (I 149) 222 (I 149 8)) 223 (I 149 7)) 224 a1) 225 a2) (tn (((187 : Int32) + ((5 : Int32) * a1)) + 0)))) 9 (if (I 149 9) + 1 < 60 then (I 149 9) + 1 else 60))) L c s) (o := (none, .null, sM Ln (dd_u (dd_u (dd_u (dd_u (dd_u (dd_u I 149 (upd (I 149) 222 (I 149 8))) 149 (upd (upd (I 149) 222 (I 149 8)) 223 (I 149 7))) 149 (upd (upd (upd (I 149) 222 (I 149 8)) 223 (I 149 7)) 224 a1)) 149 (upd (upd (upd (upd (I 149) 222 (I 149 8)) 223 (I 149 7)) 224 a1) 225 a2)) 149 (upd (upd (upd (upd (upd (I 149) 222 (I 149 8)) 223 (I 149 7)) 224 a1) 225 a2) 226 ((upd (upd (upd (upd (I 149) 222 (I 149 8)) 223 (I 149 7)) 224 a1) 225 a2) (tn (((187 : Int32) + ((5 : Int32) * a1)) + 0))))) 149 (upd (upd (upd (upd (upd (upd (I 149) 222 (I 149 8)) 223 (I 149 7)) 224 a1) 225 a2) 226 ((upd (upd (upd (upd (I 149) 222 (I 149 8)) 223 (I 149 7)) 224 a1) 225 a2) (tn (((187 : Int32) + ((5 : Int32) * a1)) + 0)))) 9 (if (I 149 9) + 1 < 60 then (I 149 9) + 1 else 60))) L c s)) rfl rfl h (by omega)
  · have h := h.2 hc
    obtain ⟨hc, h⟩ := h
    refine dd_Rn.chk 12 (c := 0 ≤ ((222 : Int32) + a3) - 5 ∧ tn (((222 : Int32) + a3) - 5) < 2220) (A := (30, [.ref 148, .int a1, .int a2, .int a3], [.int (I 149 (tn (((222 : Int32) + a3) - 5))), .int ((222 : Int32) + a3), .ref 149], sM Ln I L c s)) rfl hc ?_ (by omega)
    obtain ⟨hc, h⟩ := h
    refine dd_Rn.chk 0 (c := 0 ≤ (222 : Int32) + a3 ∧ tn ((222 : Int32) + a3) < 2220) (A := (31, [.ref 148, .int a1, .int a2, .int a3], [], sM Ln (dd_u I 149 (upd (I 149) (tn ((222 : Int32) + a3)) (I 149 (tn (((222 : Int32) + a3) - 5))))) L c s)) rfl hc ?_ (by omega)
    exact dd_Rn.go 2 (cf' := (4, [.ref 148, .int a1, .int a2, .int (a3 + (-1))], [], sM Ln (dd_u I 149 (upd (I 149) (tn ((222 : Int32) + a3)) (I 149 (tn (((222 : Int32) + a3) - 5))))) L c s)) rfl h (by omega)

theorem w_X11_strays_0 {Ln d c s : Nat} {I : Nat → Nat → Int32} {L : Nat → Nat → Int64} {Q : dd_O → Prop} {a1 : Int32} (hd : 28 ≤ d) (h : dd_Ev (d - 1) m_X11_drawn [.ref 148, .int 100] (sM Ln I L c s) (dd_RI Ln c s (fun x1 I1 L1 => ((x1 < I1 149 6 → ((0 ≤ ((187 : Int32) + ((5 : Int32) * a1)) + 0 ∧ tn (((187 : Int32) + ((5 : Int32) * a1)) + 0) < 2220) ∧ dd_Ev (d - 1) m_X11_drawn [.ref 148, .int 4] (sM Ln I1 L1 c s) (dd_RI Ln c s (fun x2 I2 L2 => dd_Ev (d - 1) m_X11_stepTo [.ref 148, .int (I1 149 (tn (((187 : Int32) + ((5 : Int32) * a1)) + 0))), .int ((1 : Int32) + x2)] (sM Ln I2 L2 c s) (dd_RI Ln c s (fun x3 I3 L3 => dd_Ev (d - 1) m_X11_isThere [.ref 148, .int a1, .int x3] (sM Ln I3 L3 c s) (dd_RV Ln c s (fun I4 L4 => ((0 ≤ ((187 : Int32) + ((5 : Int32) * a1)) + 4 ∧ tn (((187 : Int32) + ((5 : Int32) * a1)) + 4) < 2220) ∧ ((0 ≤ ((187 : Int32) + ((5 : Int32) * a1)) + 4 ∧ tn (((187 : Int32) + ((5 : Int32) * a1)) + 4) < 2220) ∧ dd_Ev (d - 1) m_X11_tells [.ref 148, .int a1, .int 1] (sM Ln (dd_u I4 149 (upd (I4 149) (tn (((187 : Int32) + ((5 : Int32) * a1)) + 4)) (if (I4 149 (tn (((187 : Int32) + ((5 : Int32) * a1)) + 4))) + 1 < 99 then (I4 149 (tn (((187 : Int32) + ((5 : Int32) * a1)) + 4))) + 1 else 99))) L4 c s) (dd_RV Ln c s (fun I5 L5 => Q (none, .null, sM Ln I5 L5 c s))))))))))))) ∧ (¬ (x1 < I1 149 6) → Q (none, .null, sM Ln I1 L1 c s)))))) : dd_Ev d m_X11_strays [.ref 148, .int a1] (sM Ln I L c s) Q := by
  obtain ⟨e, rfl⟩ : ∃ e, d = e + 16 := ⟨d - 16, by omega⟩
  show dd_Rn (e + 16) m_X11_strays (0, [.ref 148, .int a1], [], sM Ln I L c s) Q
  refine dd_Rn.cI 2 (pc := 3) (ls := [.ref 148, .int a1]) (st := [.int 100, .ref 148]) (x := m_X11_drawn) (as := [.ref 148, .int 100]) (rest := []) rfl rfl rfl rfl h ?_
  intro x1 I1 L1 h
  show dd_Rn (e + 16) m_X11_strays (6, [.ref 148, .int a1], [.int x1], sM Ln I1 L1 c s) _
  refine dd_Rn.ite 4 (c := x1 < I1 149 6) (A := (17, [.ref 148, .int a1], [], sM Ln I1 L1 c s)) (B := (16, [.ref 148, .int a1], [], sM Ln I1 L1 c s)) rfl (fun hc => ?_) (fun hc => ?_) (by omega)
  · have h := h.1 hc
    refine dd_Rn.sub 6 (pc := 23) (ls := [.ref 148, .int a1]) (st := [.int 0, .int a1, .ref 148, .ref 148, .int a1, .ref 148]) (M := sM Ln I1 L1 c s) (x := m_X11_of) (as := [.ref 148, .int a1, .int 0]) (rest := [.ref 148, .int a1, .ref 148]) rfl rfl rfl rfl ?_
    show dd_Rn (e + 15) m_X11_of (0, [.ref 148, .int a1, .int 0], [], sM Ln I1 L1 c s) _
    refine dd_Rn.sub 4 (pc := 6) (ls := [.ref 148, .int a1, .int 0]) (st := [.int 0, .int a1, .ref 149]) (M := sM Ln I1 L1 c s) (x := m_X11_at) (as := [.int a1, .int 0]) (rest := [.ref 149]) rfl rfl rfl rfl ?_
    show dd_Rn (e + 14) m_X11_at (0, [.int a1, .int 0], [], sM Ln I1 L1 c s) _
    refine dd_Rn.retK 7 (pc := 9) (ls := [.int a1, .int 0]) (st := [.int (((187 : Int32) + ((5 : Int32) * a1)) + 0)]) (M := sM Ln I1 L1 c s) (o := (none, .int (((187 : Int32) + ((5 : Int32) * a1)) + 0), sM Ln I1 L1 c s)) rfl rfl (dd_Af.ret rfl ?_) (by omega)
    show dd_Rn (e + 15) m_X11_of (9, [.ref 148, .int a1, .int 0], [.int (((187 : Int32) + ((5 : Int32) * a1)) + 0), .ref 149], sM Ln I1 L1 c s) _
    obtain ⟨hc, h⟩ := h
    refine dd_Rn.chk 0 (c := 0 ≤ ((187 : Int32) + ((5 : Int32) * a1)) + 0 ∧ tn (((187 : Int32) + ((5 : Int32) * a1)) + 0) < 2220) (A := (10, [.ref 148, .int a1, .int 0], [.int (I1 149 (tn (((187 : Int32) + ((5 : Int32) * a1)) + 0)))], sM Ln I1 L1 c s)) rfl hc ?_ (by omega)
    refine dd_Rn.retK 0 (pc := 10) (ls := [.ref 148, .int a1, .int 0]) (st := [.int (I1 149 (tn (((187 : Int32) + ((5 : Int32) * a1)) + 0)))]) (M := sM Ln I1 L1 c s) (o := (none, .int (I1 149 (tn (((187 : Int32) + ((5 : Int32) * a1)) + 0))), sM Ln I1 L1 c s)) rfl rfl (dd_Af.ret rfl ?_) (by omega)
    show dd_Rn (e + 16) m_X11_strays (26, [.ref 148, .int a1], [.int (I1 149 (tn (((187 : Int32) + ((5 : Int32) * a1)) + 0))), .ref 148, .int a1, .ref 148], sM Ln I1 L1 c s) _
    refine dd_Rn.cI 3 (pc := 29) (ls := [.ref 148, .int a1]) (st := [.int 4, .ref 148, .int 1, .int (I1 149 (tn (((187 : Int32) + ((5 : Int32) * a1)) + 0))), .ref 148, .int a1, .ref 148]) (x := m_X11_drawn) (as := [.ref 148, .int 4]) (rest := [.int 1, .int (I1 149 (tn (((187 : Int32) + ((5 : Int32) * a1)) + 0))), .ref 148, .int a1, .ref 148]) rfl rfl rfl rfl h ?_
    intro x2 I2 L2 h
    show dd_Rn (e + 16) m_X11_strays (32, [.ref 148, .int a1], [.int x2, .int 1, .int (I1 149 (tn (((187 : Int32) + ((5 : Int32) * a1)) + 0))), .ref 148, .int a1, .ref 148], sM Ln I2 L2 c s) _
    refine dd_Rn.cI 1 (pc := 33) (ls := [.ref 148, .int a1]) (st := [.int ((1 : Int32) + x2), .int (I1 149 (tn (((187 : Int32) + ((5 : Int32) * a1)) + 0))), .ref 148, .int a1, .ref 148]) (x := m_X11_stepTo) (as := [.ref 148, .int (I1 149 (tn (((187 : Int32) + ((5 : Int32) * a1)) + 0))), .int ((1 : Int32) + x2)]) (rest := [.int a1, .ref 148]) rfl rfl rfl rfl h ?_
    intro x3 I3 L3 h
    show dd_Rn (e + 16) m_X11_strays (36, [.ref 148, .int a1], [.int x3, .int a1, .ref 148], sM Ln I3 L3 c s) _
    refine dd_Rn.cV 0 (pc := 36) (ls := [.ref 148, .int a1]) (st := [.int x3, .int a1, .ref 148]) (x := m_X11_isThere) (as := [.ref 148, .int a1, .int x3]) (rest := []) rfl rfl rfl rfl h ?_
    intro I4 L4 h
    show dd_Rn (e + 16) m_X11_strays (39, [.ref 148, .int a1], [], sM Ln I4 L4 c s) _
    refine dd_Rn.sub 4 (pc := 45) (ls := [.ref 148, .int a1]) (st := [.int 4, .int a1, .ref 149]) (M := sM Ln I4 L4 c s) (x := m_X11_at) (as := [.int a1, .int 4]) (rest := [.ref 149]) rfl rfl rfl rfl ?_
    show dd_Rn (e + 15) m_X11_at (0, [.int a1, .int 4], [], sM Ln I4 L4 c s) _
    refine dd_Rn.retK 7 (pc := 9) (ls := [.int a1, .int 4]) (st := [.int (((187 : Int32) + ((5 : Int32) * a1)) + 4)]) (M := sM Ln I4 L4 c s) (o := (none, .int (((187 : Int32) + ((5 : Int32) * a1)) + 4), sM Ln I4 L4 c s)) rfl rfl (dd_Af.ret rfl ?_) (by omega)
    show dd_Rn (e + 16) m_X11_strays (48, [.ref 148, .int a1], [.int (((187 : Int32) + ((5 : Int32) * a1)) + 4), .ref 149], sM Ln I4 L4 c s) _
    refine dd_Rn.sub 4 (pc := 53) (ls := [.ref 148, .int a1]) (st := [.int 4, .int a1, .ref 148, .int 99, .int (((187 : Int32) + ((5 : Int32) * a1)) + 4), .ref 149]) (M := sM Ln I4 L4 c s) (x := m_X11_of) (as := [.ref 148, .int a1, .int 4]) (rest := [.int 99, .int (((187 : Int32) + ((5 : Int32) * a1)) + 4), .ref 149]) rfl rfl rfl rfl ?_
    show dd_Rn (e + 15) m_X11_of (0, [.ref 148, .int a1, .int 4], [], sM Ln I4 L4 c s) _
    refine dd_Rn.sub 4 (pc := 6) (ls := [.ref 148, .int a1, .int 4]) (st := [.int 4, .int a1, .ref 149]) (M := sM Ln I4 L4 c s) (x := m_X11_at) (as := [.int a1, .int 4]) (rest := [.ref 149]) rfl rfl rfl rfl ?_
    show dd_Rn (e + 14) m_X11_at (0, [.int a1, .int 4], [], sM Ln I4 L4 c s) _
    refine dd_Rn.retK 7 (pc := 9) (ls := [.int a1, .int 4]) (st := [.int (((187 : Int32) + ((5 : Int32) * a1)) + 4)]) (M := sM Ln I4 L4 c s) (o := (none, .int (((187 : Int32) + ((5 : Int32) * a1)) + 4), sM Ln I4 L4 c s)) rfl rfl (dd_Af.ret rfl ?_) (by omega)
    show dd_Rn (e + 15) m_X11_of (9, [.ref 148, .int a1, .int 4], [.int (((187 : Int32) + ((5 : Int32) * a1)) + 4), .ref 149], sM Ln I4 L4 c s) _
    obtain ⟨hc, h⟩ := h
    refine dd_Rn.chk 0 (c := 0 ≤ ((187 : Int32) + ((5 : Int32) * a1)) + 4 ∧ tn (((187 : Int32) + ((5 : Int32) * a1)) + 4) < 2220) (A := (10, [.ref 148, .int a1, .int 4], [.int (I4 149 (tn (((187 : Int32) + ((5 : Int32) * a1)) + 4)))], sM Ln I4 L4 c s)) rfl hc ?_ (by omega)
    refine dd_Rn.retK 0 (pc := 10) (ls := [.ref 148, .int a1, .int 4]) (st := [.int (I4 149 (tn (((187 : Int32) + ((5 : Int32) * a1)) + 4)))]) (M := sM Ln I4 L4 c s) (o := (none, .int (I4 149 (tn (((187 : Int32) + ((5 : Int32) * a1)) + 4))), sM Ln I4 L4 c s)) rfl rfl (dd_Af.ret rfl ?_) (by omega)
    show dd_Rn (e + 16) m_X11_strays (56, [.ref 148, .int a1], [.int (I4 149 (tn (((187 : Int32) + ((5 : Int32) * a1)) + 4))), .int 99, .int (((187 : Int32) + ((5 : Int32) * a1)) + 4), .ref 149], sM Ln I4 L4 c s) _
    obtain ⟨hc, h⟩ := h
    refine dd_Rn.chk 3 (c := 0 ≤ ((187 : Int32) + ((5 : Int32) * a1)) + 4 ∧ tn (((187 : Int32) + ((5 : Int32) * a1)) + 4) < 2220) (A := (62, [.ref 148, .int a1], [], sM Ln (dd_u I4 149 (upd (I4 149) (tn (((187 : Int32) + ((5 : Int32) * a1)) + 4)) (if (I4 149 (tn (((187 : Int32) + ((5 : Int32) * a1)) + 4))) + 1 < 99 then (I4 149 (tn (((187 : Int32) + ((5 : Int32) * a1)) + 4))) + 1 else 99))) L4 c s)) rfl hc ?_ (by omega)
    refine dd_Rn.cV 3 (pc := 65) (ls := [.ref 148, .int a1]) (st := [.int 1, .int a1, .ref 148]) (x := m_X11_tells) (as := [.ref 148, .int a1, .int 1]) (rest := []) rfl rfl rfl rfl h ?_
    intro I5 L5 h
    show dd_Rn (e + 16) m_X11_strays (68, [.ref 148, .int a1], [], sM Ln I5 L5 c s) _
    exact dd_Rn.retK 0 (pc := 68) (ls := [.ref 148, .int a1]) (st := []) (M := sM Ln I5 L5 c s) (o := (none, .null, sM Ln I5 L5 c s)) rfl rfl h (by omega)
  · have h := h.2 hc
    exact dd_Rn.retK 0 (pc := 16) (ls := [.ref 148, .int a1]) (st := []) (M := sM Ln I1 L1 c s) (o := (none, .null, sM Ln I1 L1 c s)) rfl rfl h (by omega)

theorem w_X11_beatEnds_0 {Ln d c s : Nat} {I : Nat → Nat → Int32} {L : Nat → Nat → Int64} {Q : dd_O → Prop} (hd : 28 ≤ d) (h : (((8 : Int32) ≤ (I 149 7) + 1 → Q (none, .null, sM Ln (dd_u (dd_u (dd_u I 149 (upd (I 149) 7 ((I 149 7) + 1))) 149 (upd (upd (I 149) 7 ((I 149 7) + 1)) 7 0)) 149 (upd (upd (upd (I 149) 7 ((I 149 7) + 1)) 7 0) 8 (if (I 149 8) + 1 < 9999 then (I 149 8) + 1 else 9999))) L c s)) ∧ (¬ ((8 : Int32) ≤ (I 149 7) + 1) → Q (none, .null, sM Ln (dd_u I 149 (upd (I 149) 7 ((I 149 7) + 1))) L c s)))) : dd_Ev d m_X11_beatEnds [.ref 148] (sM Ln I L c s) Q := by
  obtain ⟨e, rfl⟩ : ∃ e, d = e + 16 := ⟨d - 16, by omega⟩
  show dd_Rn (e + 16) m_X11_beatEnds (0, [.ref 148], [], sM Ln I L c s) Q
  refine dd_Rn.ite 13 (c := (8 : Int32) ≤ (I 149 7) + 1) (A := (24, [.ref 148], [], sM Ln (dd_u I 149 (upd (I 149) 7 ((I 149 7) + 1))) L c s)) (B := (23, [.ref 148], [], sM Ln (dd_u I 149 (upd (I 149) 7 ((I 149 7) + 1))) L c s)) rfl (fun hc => ?_) (fun hc => ?_) (by omega)
  · have h := h.1 hc
    exact dd_Rn.retK 17 (pc := 54) (ls := [.ref 148]) (st := []) (M := sM Ln (dd_u (dd_u (dd_u I 149 (upd (I 149) 7 ((I 149 7) + 1))) 149 (upd (upd (I 149) 7 ((I 149 7) + 1)) 7 0)) 149 (upd (upd (upd (I 149) 7 ((I 149 7) + 1)) 7 0) 8 (if (I 149 8) + 1 < 9999 then (I 149 8) + 1 else 9999))) L c s) (o := (none, .null, sM Ln (dd_u (dd_u (dd_u I 149 (upd (I 149) 7 ((I 149 7) + 1))) 149 (upd (upd (I 149) 7 ((I 149 7) + 1)) 7 0)) 149 (upd (upd (upd (I 149) 7 ((I 149 7) + 1)) 7 0) 8 (if (I 149 8) + 1 < 9999 then (I 149 8) + 1 else 9999))) L c s)) rfl rfl h (by omega)
  · have h := h.2 hc
    exact dd_Rn.retK 0 (pc := 23) (ls := [.ref 148]) (st := []) (M := sM Ln (dd_u I 149 (upd (I 149) 7 ((I 149 7) + 1))) L c s) (o := (none, .null, sM Ln (dd_u I 149 (upd (I 149) 7 ((I 149 7) + 1))) L c s)) rfl rfl h (by omega)

theorem w_X11_oneBeat_0 {Ln d c s : Nat} {I : Nat → Nat → Int32} {L : Nat → Nat → Int64} {Q : dd_O → Prop} {a1 : Int32} (hd : 28 ≤ d) (h : dd_Rn d m_X11_oneBeat (4, [.ref 148, .int a1, .int 0, .int 0], [], sM Ln I L c s) Q) : dd_Ev d m_X11_oneBeat [.ref 148, .int a1] (sM Ln I L c s) Q := by
  obtain ⟨e, rfl⟩ : ∃ e, d = e + 16 := ⟨d - 16, by omega⟩
  show dd_Rn (e + 16) m_X11_oneBeat (0, [.ref 148, .int a1, .null, .null], [], sM Ln I L c s) Q
  exact dd_Rn.go 4 (cf' := (4, [.ref 148, .int a1, .int 0, .int 0], [], sM Ln I L c s)) rfl h (by omega)

theorem w_X11_oneBeat_4 {Ln d c s : Nat} {I : Nat → Nat → Int32} {L : Nat → Nat → Int64} {Q : dd_O → Prop} {a1 a2 a3 : Int32} (hd : 28 ≤ d) (h : ((I 149 1 ≤ a3 → dd_Ev (d - 1) m_X11_beatEnds [.ref 148] (sM Ln I L c s) (dd_RV Ln c s (fun I1 L1 => Q (none, .int a2, sM Ln I1 L1 c s)))) ∧ (¬ (I 149 1 ≤ a3) → ((0 ≤ ((187 : Int32) + ((5 : Int32) * a3)) + 3 ∧ tn (((187 : Int32) + ((5 : Int32) * a3)) + 3) < 2220) ∧ ((I 149 (tn (((187 : Int32) + ((5 : Int32) * a3)) + 3)) = 1 → dd_Rn d m_X11_oneBeat (4, [.ref 148, .int a1, .int a2, .int (a3 + 1)], [], sM Ln I L c s) Q) ∧ (¬ (I 149 (tn (((187 : Int32) + ((5 : Int32) * a3)) + 3)) = 1) → ((0 ≤ ((187 : Int32) + ((5 : Int32) * a3)) + 1 ∧ tn (((187 : Int32) + ((5 : Int32) * a3)) + 1) < 2220) ∧ ((0 ≤ ((139 : Int32) + ((8 : Int32) * (I 149 (tn (((187 : Int32) + ((5 : Int32) * a3)) + 1))))) + (I 149 7) ∧ tn (((139 : Int32) + ((8 : Int32) * (I 149 (tn (((187 : Int32) + ((5 : Int32) * a3)) + 1))))) + (I 149 7)) < 2220) ∧ dd_Ev (d - 1) m_X11_goesBy [.ref 148, .int a3, .int (I 149 (tn (((139 : Int32) + ((8 : Int32) * (I 149 (tn (((187 : Int32) + ((5 : Int32) * a3)) + 1))))) + (I 149 7))))] (sM Ln I L c s) (dd_RI Ln c s (fun x2 I2 L2 => ((x2 = 0 → ((0 ≤ ((187 : Int32) + ((5 : Int32) * a3)) + 3 ∧ tn (((187 : Int32) + ((5 : Int32) * a3)) + 3) < 2220) ∧ ((I2 149 (tn (((187 : Int32) + ((5 : Int32) * a3)) + 3)) = 1 → dd_Ev (d - 1) m_X11_tells [.ref 148, .int a3, .int 0] (sM Ln I2 L2 c s) (dd_RV Ln c s (fun I3 L3 => dd_Rn d m_X11_oneBeat (4, [.ref 148, .int a1, .int (a2 + 1), .int (a3 + 1)], [], sM Ln I3 L3 c s) Q))) ∧ (¬ (I2 149 (tn (((187 : Int32) + ((5 : Int32) * a3)) + 3)) = 1) → dd_Rn d m_X11_oneBeat (4, [.ref 148, .int a1, .int a2, .int (a3 + 1)], [], sM Ln I2 L2 c s) Q)))) ∧ (¬ (x2 = 0) → ((a1 = 0 → dd_Ev (d - 1) m_X11_strays [.ref 148, .int a3] (sM Ln I2 L2 c s) (dd_RV Ln c s (fun I4 L4 => ((0 ≤ ((187 : Int32) + ((5 : Int32) * a3)) + 3 ∧ tn (((187 : Int32) + ((5 : Int32) * a3)) + 3) < 2220) ∧ ((I4 149 (tn (((187 : Int32) + ((5 : Int32) * a3)) + 3)) = 1 → dd_Ev (d - 1) m_X11_tells [.ref 148, .int a3, .int 0] (sM Ln I4 L4 c s) (dd_RV Ln c s (fun I5 L5 => dd_Rn d m_X11_oneBeat (4, [.ref 148, .int a1, .int (a2 + 1), .int (a3 + 1)], [], sM Ln I5 L5 c s) Q))) ∧ (¬ (I4 149 (tn (((187 : Int32) + ((5 : Int32) * a3)) + 3)) = 1) → dd_Rn d m_X11_oneBeat (4, [.ref 148, .int a1, .int a2, .int (a3 + 1)], [], sM Ln I4 L4 c s) Q)))))) ∧ (¬ (a1 = 0) → ((0 ≤ ((187 : Int32) + ((5 : Int32) * a3)) + 3 ∧ tn (((187 : Int32) + ((5 : Int32) * a3)) + 3) < 2220) ∧ ((I2 149 (tn (((187 : Int32) + ((5 : Int32) * a3)) + 3)) = 1 → dd_Ev (d - 1) m_X11_tells [.ref 148, .int a3, .int 0] (sM Ln I2 L2 c s) (dd_RV Ln c s (fun I6 L6 => dd_Rn d m_X11_oneBeat (4, [.ref 148, .int a1, .int (a2 + 1), .int (a3 + 1)], [], sM Ln I6 L6 c s) Q))) ∧ (¬ (I2 149 (tn (((187 : Int32) + ((5 : Int32) * a3)) + 3)) = 1) → dd_Rn d m_X11_oneBeat (4, [.ref 148, .int a1, .int a2, .int (a3 + 1)], [], sM Ln I2 L2 c s) Q))))))))))))))))) : dd_Rn d m_X11_oneBeat (4, [.ref 148, .int a1, .int a2, .int a3], [], sM Ln I L c s) Q := by
  obtain ⟨e, rfl⟩ : ∃ e, d = e + 16 := ⟨d - 16, by omega⟩
  refine dd_Rn.sub 2 (pc := 6) (ls := [.ref 148, .int a1, .int a2, .int a3]) (st := [.ref 148, .int a3]) (M := sM Ln I L c s) (x := m_X11_boys) (as := [.ref 148]) (rest := [.int a3]) rfl rfl rfl rfl ?_
  show dd_Rn (e + 15) m_X11_boys (0, [.ref 148], [], sM Ln I L c s) _
  refine dd_Rn.retK 4 (pc := 6) (ls := [.ref 148]) (st := [.int (I 149 1)]) (M := sM Ln I L c s) (o := (none, .int (I 149 1), sM Ln I L c s)) rfl rfl (dd_Af.ret rfl ?_) (by omega)
  show dd_Rn (e + 16) m_X11_oneBeat (9, [.ref 148, .int a1, .int a2, .int a3], [.int (I 149 1), .int a3], sM Ln I L c s) _
  refine dd_Rn.ite 0 (c := I 149 1 ≤ a3) (A := (71, [.ref 148, .int a1, .int a2, .int a3], [], sM Ln I L c s)) (B := (12, [.ref 148, .int a1, .int a2, .int a3], [], sM Ln I L c s)) rfl (fun hc => ?_) (fun hc => ?_) (by omega)
  · have h := h.1 hc
    refine dd_Rn.cV 1 (pc := 72) (ls := [.ref 148, .int a1, .int a2, .int a3]) (st := [.ref 148]) (x := m_X11_beatEnds) (as := [.ref 148]) (rest := []) rfl rfl rfl rfl h ?_
    intro I1 L1 h
    show dd_Rn (e + 16) m_X11_oneBeat (75, [.ref 148, .int a1, .int a2, .int a3], [], sM Ln I1 L1 c s) _
    exact dd_Rn.retK 1 (pc := 76) (ls := [.ref 148, .int a1, .int a2, .int a3]) (st := [.int a2]) (M := sM Ln I1 L1 c s) (o := (none, .int a2, sM Ln I1 L1 c s)) rfl rfl h (by omega)
  · have h := h.2 hc
    refine dd_Rn.sub 2 (pc := 14) (ls := [.ref 148, .int a1, .int a2, .int a3]) (st := [.int a3, .ref 148]) (M := sM Ln I L c s) (x := m_X11_isIn) (as := [.ref 148, .int a3]) (rest := []) rfl rfl rfl rfl ?_
    show dd_Rn (e + 15) m_X11_isIn (0, [.ref 148, .int a3], [], sM Ln I L c s) _
    refine dd_Rn.sub 3 (pc := 3) (ls := [.ref 148, .int a3]) (st := [.int 3, .int a3, .ref 148]) (M := sM Ln I L c s) (x := m_X11_of) (as := [.ref 148, .int a3, .int 3]) (rest := []) rfl rfl rfl rfl ?_
    show dd_Rn (e + 14) m_X11_of (0, [.ref 148, .int a3, .int 3], [], sM Ln I L c s) _
    refine dd_Rn.sub 4 (pc := 6) (ls := [.ref 148, .int a3, .int 3]) (st := [.int 3, .int a3, .ref 149]) (M := sM Ln I L c s) (x := m_X11_at) (as := [.int a3, .int 3]) (rest := [.ref 149]) rfl rfl rfl rfl ?_
    show dd_Rn (e + 13) m_X11_at (0, [.int a3, .int 3], [], sM Ln I L c s) _
    refine dd_Rn.retK 7 (pc := 9) (ls := [.int a3, .int 3]) (st := [.int (((187 : Int32) + ((5 : Int32) * a3)) + 3)]) (M := sM Ln I L c s) (o := (none, .int (((187 : Int32) + ((5 : Int32) * a3)) + 3), sM Ln I L c s)) rfl rfl (dd_Af.ret rfl ?_) (by omega)
    show dd_Rn (e + 14) m_X11_of (9, [.ref 148, .int a3, .int 3], [.int (((187 : Int32) + ((5 : Int32) * a3)) + 3), .ref 149], sM Ln I L c s) _
    obtain ⟨hc, h⟩ := h
    refine dd_Rn.chk 0 (c := 0 ≤ ((187 : Int32) + ((5 : Int32) * a3)) + 3 ∧ tn (((187 : Int32) + ((5 : Int32) * a3)) + 3) < 2220) (A := (10, [.ref 148, .int a3, .int 3], [.int (I 149 (tn (((187 : Int32) + ((5 : Int32) * a3)) + 3)))], sM Ln I L c s)) rfl hc ?_ (by omega)
    refine dd_Rn.retK 0 (pc := 10) (ls := [.ref 148, .int a3, .int 3]) (st := [.int (I 149 (tn (((187 : Int32) + ((5 : Int32) * a3)) + 3)))]) (M := sM Ln I L c s) (o := (none, .int (I 149 (tn (((187 : Int32) + ((5 : Int32) * a3)) + 3))), sM Ln I L c s)) rfl rfl (dd_Af.ret rfl ?_) (by omega)
    show dd_Rn (e + 15) m_X11_isIn (6, [.ref 148, .int a3], [.int (I 149 (tn (((187 : Int32) + ((5 : Int32) * a3)) + 3)))], sM Ln I L c s) _
    refine dd_Rn.ite 1 (c := I 149 (tn (((187 : Int32) + ((5 : Int32) * a3)) + 3)) = 1) (A := (10, [.ref 148, .int a3], [], sM Ln I L c s)) (B := (14, [.ref 148, .int a3], [], sM Ln I L c s)) rfl (fun hc => ?_) (fun hc => ?_) (by omega)
    · have h := h.1 hc
      refine dd_Rn.retK 2 (pc := 15) (ls := [.ref 148, .int a3]) (st := [.int 1]) (M := sM Ln I L c s) (o := (none, .int 1, sM Ln I L c s)) rfl rfl (dd_Af.ret rfl ?_) (by omega)
      show dd_Rn (e + 16) m_X11_oneBeat (17, [.ref 148, .int a1, .int a2, .int a3], [.int 1], sM Ln I L c s) _
      exact dd_Rn.go 4 (cf' := (4, [.ref 148, .int a1, .int a2, .int (a3 + 1)], [], sM Ln I L c s)) rfl h (by omega)
    · have h := h.2 hc
      refine dd_Rn.retK 1 (pc := 15) (ls := [.ref 148, .int a3]) (st := [.int 0]) (M := sM Ln I L c s) (o := (none, .int 0, sM Ln I L c s)) rfl rfl (dd_Af.ret rfl ?_) (by omega)
      show dd_Rn (e + 16) m_X11_oneBeat (17, [.ref 148, .int a1, .int a2, .int a3], [.int 0], sM Ln I L c s) _
      refine dd_Rn.sub 5 (pc := 27) (ls := [.ref 148, .int a1, .int a2, .int a3]) (st := [.int a3, .ref 148, .int a3, .ref 148]) (M := sM Ln I L c s) (x := m_X11_noteOf) (as := [.ref 148, .int a3]) (rest := [.int a3, .ref 148]) rfl rfl rfl rfl ?_
      show dd_Rn (e + 15) m_X11_noteOf (0, [.ref 148, .int a3], [], sM Ln I L c s) _
      refine dd_Rn.sub 5 (pc := 7) (ls := [.ref 148, .int a3]) (st := [.int 1, .int a3, .ref 148, .ref 149]) (M := sM Ln I L c s) (x := m_X11_of) (as := [.ref 148, .int a3, .int 1]) (rest := [.ref 149]) rfl rfl rfl rfl ?_
      show dd_Rn (e + 14) m_X11_of (0, [.ref 148, .int a3, .int 1], [], sM Ln I L c s) _
      refine dd_Rn.sub 4 (pc := 6) (ls := [.ref 148, .int a3, .int 1]) (st := [.int 1, .int a3, .ref 149]) (M := sM Ln I L c s) (x := m_X11_at) (as := [.int a3, .int 1]) (rest := [.ref 149]) rfl rfl rfl rfl ?_
      show dd_Rn (e + 13) m_X11_at (0, [.int a3, .int 1], [], sM Ln I L c s) _
      refine dd_Rn.retK 7 (pc := 9) (ls := [.int a3, .int 1]) (st := [.int (((187 : Int32) + ((5 : Int32) * a3)) + 1)]) (M := sM Ln I L c s) (o := (none, .int (((187 : Int32) + ((5 : Int32) * a3)) + 1), sM Ln I L c s)) rfl rfl (dd_Af.ret rfl ?_) (by omega)
      show dd_Rn (e + 14) m_X11_of (9, [.ref 148, .int a3, .int 1], [.int (((187 : Int32) + ((5 : Int32) * a3)) + 1), .ref 149], sM Ln I L c s) _
      obtain ⟨hc, h⟩ := h
      refine dd_Rn.chk 0 (c := 0 ≤ ((187 : Int32) + ((5 : Int32) * a3)) + 1 ∧ tn (((187 : Int32) + ((5 : Int32) * a3)) + 1) < 2220) (A := (10, [.ref 148, .int a3, .int 1], [.int (I 149 (tn (((187 : Int32) + ((5 : Int32) * a3)) + 1)))], sM Ln I L c s)) rfl hc ?_ (by omega)
      refine dd_Rn.retK 0 (pc := 10) (ls := [.ref 148, .int a3, .int 1]) (st := [.int (I 149 (tn (((187 : Int32) + ((5 : Int32) * a3)) + 1)))]) (M := sM Ln I L c s) (o := (none, .int (I 149 (tn (((187 : Int32) + ((5 : Int32) * a3)) + 1))), sM Ln I L c s)) rfl rfl (dd_Af.ret rfl ?_) (by omega)
      show dd_Rn (e + 15) m_X11_noteOf (10, [.ref 148, .int a3], [.int (I 149 (tn (((187 : Int32) + ((5 : Int32) * a3)) + 1))), .ref 149], sM Ln I L c s) _
      refine dd_Rn.sub 4 (pc := 17) (ls := [.ref 148, .int a3]) (st := [.int (I 149 7), .int (I 149 (tn (((187 : Int32) + ((5 : Int32) * a3)) + 1))), .ref 149]) (M := sM Ln I L c s) (x := m_X11_noteAt) (as := [.int (I 149 (tn (((187 : Int32) + ((5 : Int32) * a3)) + 1))), .int (I 149 7)]) (rest := [.ref 149]) rfl rfl rfl rfl ?_
      show dd_Rn (e + 14) m_X11_noteAt (0, [.int (I 149 (tn (((187 : Int32) + ((5 : Int32) * a3)) + 1))), .int (I 149 7)], [], sM Ln I L c s) _
      refine dd_Rn.retK 7 (pc := 10) (ls := [.int (I 149 (tn (((187 : Int32) + ((5 : Int32) * a3)) + 1))), .int (I 149 7)]) (st := [.int (((139 : Int32) + ((8 : Int32) * (I 149 (tn (((187 : Int32) + ((5 : Int32) * a3)) + 1))))) + (I 149 7))]) (M := sM Ln I L c s) (o := (none, .int (((139 : Int32) + ((8 : Int32) * (I 149 (tn (((187 : Int32) + ((5 : Int32) * a3)) + 1))))) + (I 149 7)), sM Ln I L c s)) rfl rfl (dd_Af.ret rfl ?_) (by omega)
      show dd_Rn (e + 15) m_X11_noteOf (20, [.ref 148, .int a3], [.int (((139 : Int32) + ((8 : Int32) * (I 149 (tn (((187 : Int32) + ((5 : Int32) * a3)) + 1))))) + (I 149 7)), .ref 149], sM Ln I L c s) _
      obtain ⟨hc, h⟩ := h
      refine dd_Rn.chk 0 (c := 0 ≤ ((139 : Int32) + ((8 : Int32) * (I 149 (tn (((187 : Int32) + ((5 : Int32) * a3)) + 1))))) + (I 149 7) ∧ tn (((139 : Int32) + ((8 : Int32) * (I 149 (tn (((187 : Int32) + ((5 : Int32) * a3)) + 1))))) + (I 149 7)) < 2220) (A := (21, [.ref 148, .int a3], [.int (I 149 (tn (((139 : Int32) + ((8 : Int32) * (I 149 (tn (((187 : Int32) + ((5 : Int32) * a3)) + 1))))) + (I 149 7))))], sM Ln I L c s)) rfl hc ?_ (by omega)
      refine dd_Rn.retK 0 (pc := 21) (ls := [.ref 148, .int a3]) (st := [.int (I 149 (tn (((139 : Int32) + ((8 : Int32) * (I 149 (tn (((187 : Int32) + ((5 : Int32) * a3)) + 1))))) + (I 149 7))))]) (M := sM Ln I L c s) (o := (none, .int (I 149 (tn (((139 : Int32) + ((8 : Int32) * (I 149 (tn (((187 : Int32) + ((5 : Int32) * a3)) + 1))))) + (I 149 7)))), sM Ln I L c s)) rfl rfl (dd_Af.ret rfl ?_) (by omega)
      show dd_Rn (e + 16) m_X11_oneBeat (30, [.ref 148, .int a1, .int a2, .int a3], [.int (I 149 (tn (((139 : Int32) + ((8 : Int32) * (I 149 (tn (((187 : Int32) + ((5 : Int32) * a3)) + 1))))) + (I 149 7)))), .int a3, .ref 148], sM Ln I L c s) _
      refine dd_Rn.cI 0 (pc := 30) (ls := [.ref 148, .int a1, .int a2, .int a3]) (st := [.int (I 149 (tn (((139 : Int32) + ((8 : Int32) * (I 149 (tn (((187 : Int32) + ((5 : Int32) * a3)) + 1))))) + (I 149 7)))), .int a3, .ref 148]) (x := m_X11_goesBy) (as := [.ref 148, .int a3, .int (I 149 (tn (((139 : Int32) + ((8 : Int32) * (I 149 (tn (((187 : Int32) + ((5 : Int32) * a3)) + 1))))) + (I 149 7))))]) (rest := []) rfl rfl rfl rfl h ?_
      intro x2 I2 L2 h
      show dd_Rn (e + 16) m_X11_oneBeat (33, [.ref 148, .int a1, .int a2, .int a3], [.int x2], sM Ln I2 L2 c s) _
      refine dd_Rn.ite 0 (c := x2 = 0) (A := (45, [.ref 148, .int a1, .int a2, .int a3], [], sM Ln I2 L2 c s)) (B := (36, [.ref 148, .int a1, .int a2, .int a3], [], sM Ln I2 L2 c s)) rfl (fun hc => ?_) (fun hc => ?_) (by omega)
      · have h := h.1 hc
        refine dd_Rn.sub 2 (pc := 47) (ls := [.ref 148, .int a1, .int a2, .int a3]) (st := [.int a3, .ref 148]) (M := sM Ln I2 L2 c s) (x := m_X11_isIn) (as := [.ref 148, .int a3]) (rest := []) rfl rfl rfl rfl ?_
        show dd_Rn (e + 15) m_X11_isIn (0, [.ref 148, .int a3], [], sM Ln I2 L2 c s) _
        refine dd_Rn.sub 3 (pc := 3) (ls := [.ref 148, .int a3]) (st := [.int 3, .int a3, .ref 148]) (M := sM Ln I2 L2 c s) (x := m_X11_of) (as := [.ref 148, .int a3, .int 3]) (rest := []) rfl rfl rfl rfl ?_
        show dd_Rn (e + 14) m_X11_of (0, [.ref 148, .int a3, .int 3], [], sM Ln I2 L2 c s) _
        refine dd_Rn.sub 4 (pc := 6) (ls := [.ref 148, .int a3, .int 3]) (st := [.int 3, .int a3, .ref 149]) (M := sM Ln I2 L2 c s) (x := m_X11_at) (as := [.int a3, .int 3]) (rest := [.ref 149]) rfl rfl rfl rfl ?_
        show dd_Rn (e + 13) m_X11_at (0, [.int a3, .int 3], [], sM Ln I2 L2 c s) _
        refine dd_Rn.retK 7 (pc := 9) (ls := [.int a3, .int 3]) (st := [.int (((187 : Int32) + ((5 : Int32) * a3)) + 3)]) (M := sM Ln I2 L2 c s) (o := (none, .int (((187 : Int32) + ((5 : Int32) * a3)) + 3), sM Ln I2 L2 c s)) rfl rfl (dd_Af.ret rfl ?_) (by omega)
        show dd_Rn (e + 14) m_X11_of (9, [.ref 148, .int a3, .int 3], [.int (((187 : Int32) + ((5 : Int32) * a3)) + 3), .ref 149], sM Ln I2 L2 c s) _
        obtain ⟨hc, h⟩ := h
        refine dd_Rn.chk 0 (c := 0 ≤ ((187 : Int32) + ((5 : Int32) * a3)) + 3 ∧ tn (((187 : Int32) + ((5 : Int32) * a3)) + 3) < 2220) (A := (10, [.ref 148, .int a3, .int 3], [.int (I2 149 (tn (((187 : Int32) + ((5 : Int32) * a3)) + 3)))], sM Ln I2 L2 c s)) rfl hc ?_ (by omega)
        refine dd_Rn.retK 0 (pc := 10) (ls := [.ref 148, .int a3, .int 3]) (st := [.int (I2 149 (tn (((187 : Int32) + ((5 : Int32) * a3)) + 3)))]) (M := sM Ln I2 L2 c s) (o := (none, .int (I2 149 (tn (((187 : Int32) + ((5 : Int32) * a3)) + 3))), sM Ln I2 L2 c s)) rfl rfl (dd_Af.ret rfl ?_) (by omega)
        show dd_Rn (e + 15) m_X11_isIn (6, [.ref 148, .int a3], [.int (I2 149 (tn (((187 : Int32) + ((5 : Int32) * a3)) + 3)))], sM Ln I2 L2 c s) _
        refine dd_Rn.ite 1 (c := I2 149 (tn (((187 : Int32) + ((5 : Int32) * a3)) + 3)) = 1) (A := (10, [.ref 148, .int a3], [], sM Ln I2 L2 c s)) (B := (14, [.ref 148, .int a3], [], sM Ln I2 L2 c s)) rfl (fun hc => ?_) (fun hc => ?_) (by omega)
        · have h := h.1 hc
          refine dd_Rn.retK 2 (pc := 15) (ls := [.ref 148, .int a3]) (st := [.int 1]) (M := sM Ln I2 L2 c s) (o := (none, .int 1, sM Ln I2 L2 c s)) rfl rfl (dd_Af.ret rfl ?_) (by omega)
          show dd_Rn (e + 16) m_X11_oneBeat (50, [.ref 148, .int a1, .int a2, .int a3], [.int 1], sM Ln I2 L2 c s) _
          refine dd_Rn.cV 5 (pc := 62) (ls := [.ref 148, .int a1, .int (a2 + 1), .int a3]) (st := [.int 0, .int a3, .ref 148]) (x := m_X11_tells) (as := [.ref 148, .int a3, .int 0]) (rest := []) rfl rfl rfl rfl h ?_
          intro I3 L3 h
          show dd_Rn (e + 16) m_X11_oneBeat (65, [.ref 148, .int a1, .int (a2 + 1), .int a3], [], sM Ln I3 L3 c s) _
          exact dd_Rn.go 2 (cf' := (4, [.ref 148, .int a1, .int (a2 + 1), .int (a3 + 1)], [], sM Ln I3 L3 c s)) rfl h (by omega)
        · have h := h.2 hc
          refine dd_Rn.retK 1 (pc := 15) (ls := [.ref 148, .int a3]) (st := [.int 0]) (M := sM Ln I2 L2 c s) (o := (none, .int 0, sM Ln I2 L2 c s)) rfl rfl (dd_Af.ret rfl ?_) (by omega)
          show dd_Rn (e + 16) m_X11_oneBeat (50, [.ref 148, .int a1, .int a2, .int a3], [.int 0], sM Ln I2 L2 c s) _
          exact dd_Rn.go 4 (cf' := (4, [.ref 148, .int a1, .int a2, .int (a3 + 1)], [], sM Ln I2 L2 c s)) rfl h (by omega)
      · have h := h.2 hc
        refine dd_Rn.ite 1 (c := a1 = 0) (A := (40, [.ref 148, .int a1, .int a2, .int a3], [], sM Ln I2 L2 c s)) (B := (45, [.ref 148, .int a1, .int a2, .int a3], [], sM Ln I2 L2 c s)) rfl (fun hc => ?_) (fun hc => ?_) (by omega)
        · have h := h.1 hc
          refine dd_Rn.cV 2 (pc := 42) (ls := [.ref 148, .int a1, .int a2, .int a3]) (st := [.int a3, .ref 148]) (x := m_X11_strays) (as := [.ref 148, .int a3]) (rest := []) rfl rfl rfl rfl h ?_
          intro I4 L4 h
          show dd_Rn (e + 16) m_X11_oneBeat (45, [.ref 148, .int a1, .int a2, .int a3], [], sM Ln I4 L4 c s) _
          refine dd_Rn.sub 2 (pc := 47) (ls := [.ref 148, .int a1, .int a2, .int a3]) (st := [.int a3, .ref 148]) (M := sM Ln I4 L4 c s) (x := m_X11_isIn) (as := [.ref 148, .int a3]) (rest := []) rfl rfl rfl rfl ?_
          show dd_Rn (e + 15) m_X11_isIn (0, [.ref 148, .int a3], [], sM Ln I4 L4 c s) _
          refine dd_Rn.sub 3 (pc := 3) (ls := [.ref 148, .int a3]) (st := [.int 3, .int a3, .ref 148]) (M := sM Ln I4 L4 c s) (x := m_X11_of) (as := [.ref 148, .int a3, .int 3]) (rest := []) rfl rfl rfl rfl ?_
          show dd_Rn (e + 14) m_X11_of (0, [.ref 148, .int a3, .int 3], [], sM Ln I4 L4 c s) _
          refine dd_Rn.sub 4 (pc := 6) (ls := [.ref 148, .int a3, .int 3]) (st := [.int 3, .int a3, .ref 149]) (M := sM Ln I4 L4 c s) (x := m_X11_at) (as := [.int a3, .int 3]) (rest := [.ref 149]) rfl rfl rfl rfl ?_
          show dd_Rn (e + 13) m_X11_at (0, [.int a3, .int 3], [], sM Ln I4 L4 c s) _
          refine dd_Rn.retK 7 (pc := 9) (ls := [.int a3, .int 3]) (st := [.int (((187 : Int32) + ((5 : Int32) * a3)) + 3)]) (M := sM Ln I4 L4 c s) (o := (none, .int (((187 : Int32) + ((5 : Int32) * a3)) + 3), sM Ln I4 L4 c s)) rfl rfl (dd_Af.ret rfl ?_) (by omega)
          show dd_Rn (e + 14) m_X11_of (9, [.ref 148, .int a3, .int 3], [.int (((187 : Int32) + ((5 : Int32) * a3)) + 3), .ref 149], sM Ln I4 L4 c s) _
          obtain ⟨hc, h⟩ := h
          refine dd_Rn.chk 0 (c := 0 ≤ ((187 : Int32) + ((5 : Int32) * a3)) + 3 ∧ tn (((187 : Int32) + ((5 : Int32) * a3)) + 3) < 2220) (A := (10, [.ref 148, .int a3, .int 3], [.int (I4 149 (tn (((187 : Int32) + ((5 : Int32) * a3)) + 3)))], sM Ln I4 L4 c s)) rfl hc ?_ (by omega)
          refine dd_Rn.retK 0 (pc := 10) (ls := [.ref 148, .int a3, .int 3]) (st := [.int (I4 149 (tn (((187 : Int32) + ((5 : Int32) * a3)) + 3)))]) (M := sM Ln I4 L4 c s) (o := (none, .int (I4 149 (tn (((187 : Int32) + ((5 : Int32) * a3)) + 3))), sM Ln I4 L4 c s)) rfl rfl (dd_Af.ret rfl ?_) (by omega)
          show dd_Rn (e + 15) m_X11_isIn (6, [.ref 148, .int a3], [.int (I4 149 (tn (((187 : Int32) + ((5 : Int32) * a3)) + 3)))], sM Ln I4 L4 c s) _
          refine dd_Rn.ite 1 (c := I4 149 (tn (((187 : Int32) + ((5 : Int32) * a3)) + 3)) = 1) (A := (10, [.ref 148, .int a3], [], sM Ln I4 L4 c s)) (B := (14, [.ref 148, .int a3], [], sM Ln I4 L4 c s)) rfl (fun hc => ?_) (fun hc => ?_) (by omega)
          · have h := h.1 hc
            refine dd_Rn.retK 2 (pc := 15) (ls := [.ref 148, .int a3]) (st := [.int 1]) (M := sM Ln I4 L4 c s) (o := (none, .int 1, sM Ln I4 L4 c s)) rfl rfl (dd_Af.ret rfl ?_) (by omega)
            show dd_Rn (e + 16) m_X11_oneBeat (50, [.ref 148, .int a1, .int a2, .int a3], [.int 1], sM Ln I4 L4 c s) _
            refine dd_Rn.cV 5 (pc := 62) (ls := [.ref 148, .int a1, .int (a2 + 1), .int a3]) (st := [.int 0, .int a3, .ref 148]) (x := m_X11_tells) (as := [.ref 148, .int a3, .int 0]) (rest := []) rfl rfl rfl rfl h ?_
            intro I5 L5 h
            show dd_Rn (e + 16) m_X11_oneBeat (65, [.ref 148, .int a1, .int (a2 + 1), .int a3], [], sM Ln I5 L5 c s) _
            exact dd_Rn.go 2 (cf' := (4, [.ref 148, .int a1, .int (a2 + 1), .int (a3 + 1)], [], sM Ln I5 L5 c s)) rfl h (by omega)
          · have h := h.2 hc
            refine dd_Rn.retK 1 (pc := 15) (ls := [.ref 148, .int a3]) (st := [.int 0]) (M := sM Ln I4 L4 c s) (o := (none, .int 0, sM Ln I4 L4 c s)) rfl rfl (dd_Af.ret rfl ?_) (by omega)
            show dd_Rn (e + 16) m_X11_oneBeat (50, [.ref 148, .int a1, .int a2, .int a3], [.int 0], sM Ln I4 L4 c s) _
            exact dd_Rn.go 4 (cf' := (4, [.ref 148, .int a1, .int a2, .int (a3 + 1)], [], sM Ln I4 L4 c s)) rfl h (by omega)
        · have h := h.2 hc
          refine dd_Rn.sub 2 (pc := 47) (ls := [.ref 148, .int a1, .int a2, .int a3]) (st := [.int a3, .ref 148]) (M := sM Ln I2 L2 c s) (x := m_X11_isIn) (as := [.ref 148, .int a3]) (rest := []) rfl rfl rfl rfl ?_
          show dd_Rn (e + 15) m_X11_isIn (0, [.ref 148, .int a3], [], sM Ln I2 L2 c s) _
          refine dd_Rn.sub 3 (pc := 3) (ls := [.ref 148, .int a3]) (st := [.int 3, .int a3, .ref 148]) (M := sM Ln I2 L2 c s) (x := m_X11_of) (as := [.ref 148, .int a3, .int 3]) (rest := []) rfl rfl rfl rfl ?_
          show dd_Rn (e + 14) m_X11_of (0, [.ref 148, .int a3, .int 3], [], sM Ln I2 L2 c s) _
          refine dd_Rn.sub 4 (pc := 6) (ls := [.ref 148, .int a3, .int 3]) (st := [.int 3, .int a3, .ref 149]) (M := sM Ln I2 L2 c s) (x := m_X11_at) (as := [.int a3, .int 3]) (rest := [.ref 149]) rfl rfl rfl rfl ?_
          show dd_Rn (e + 13) m_X11_at (0, [.int a3, .int 3], [], sM Ln I2 L2 c s) _
          refine dd_Rn.retK 7 (pc := 9) (ls := [.int a3, .int 3]) (st := [.int (((187 : Int32) + ((5 : Int32) * a3)) + 3)]) (M := sM Ln I2 L2 c s) (o := (none, .int (((187 : Int32) + ((5 : Int32) * a3)) + 3), sM Ln I2 L2 c s)) rfl rfl (dd_Af.ret rfl ?_) (by omega)
          show dd_Rn (e + 14) m_X11_of (9, [.ref 148, .int a3, .int 3], [.int (((187 : Int32) + ((5 : Int32) * a3)) + 3), .ref 149], sM Ln I2 L2 c s) _
          obtain ⟨hc, h⟩ := h
          refine dd_Rn.chk 0 (c := 0 ≤ ((187 : Int32) + ((5 : Int32) * a3)) + 3 ∧ tn (((187 : Int32) + ((5 : Int32) * a3)) + 3) < 2220) (A := (10, [.ref 148, .int a3, .int 3], [.int (I2 149 (tn (((187 : Int32) + ((5 : Int32) * a3)) + 3)))], sM Ln I2 L2 c s)) rfl hc ?_ (by omega)
          refine dd_Rn.retK 0 (pc := 10) (ls := [.ref 148, .int a3, .int 3]) (st := [.int (I2 149 (tn (((187 : Int32) + ((5 : Int32) * a3)) + 3)))]) (M := sM Ln I2 L2 c s) (o := (none, .int (I2 149 (tn (((187 : Int32) + ((5 : Int32) * a3)) + 3))), sM Ln I2 L2 c s)) rfl rfl (dd_Af.ret rfl ?_) (by omega)
          show dd_Rn (e + 15) m_X11_isIn (6, [.ref 148, .int a3], [.int (I2 149 (tn (((187 : Int32) + ((5 : Int32) * a3)) + 3)))], sM Ln I2 L2 c s) _
          refine dd_Rn.ite 1 (c := I2 149 (tn (((187 : Int32) + ((5 : Int32) * a3)) + 3)) = 1) (A := (10, [.ref 148, .int a3], [], sM Ln I2 L2 c s)) (B := (14, [.ref 148, .int a3], [], sM Ln I2 L2 c s)) rfl (fun hc => ?_) (fun hc => ?_) (by omega)
          · have h := h.1 hc
            refine dd_Rn.retK 2 (pc := 15) (ls := [.ref 148, .int a3]) (st := [.int 1]) (M := sM Ln I2 L2 c s) (o := (none, .int 1, sM Ln I2 L2 c s)) rfl rfl (dd_Af.ret rfl ?_) (by omega)
            show dd_Rn (e + 16) m_X11_oneBeat (50, [.ref 148, .int a1, .int a2, .int a3], [.int 1], sM Ln I2 L2 c s) _
            refine dd_Rn.cV 5 (pc := 62) (ls := [.ref 148, .int a1, .int (a2 + 1), .int a3]) (st := [.int 0, .int a3, .ref 148]) (x := m_X11_tells) (as := [.ref 148, .int a3, .int 0]) (rest := []) rfl rfl rfl rfl h ?_
            intro I6 L6 h
            show dd_Rn (e + 16) m_X11_oneBeat (65, [.ref 148, .int a1, .int (a2 + 1), .int a3], [], sM Ln I6 L6 c s) _
            exact dd_Rn.go 2 (cf' := (4, [.ref 148, .int a1, .int (a2 + 1), .int (a3 + 1)], [], sM Ln I6 L6 c s)) rfl h (by omega)
          · have h := h.2 hc
            refine dd_Rn.retK 1 (pc := 15) (ls := [.ref 148, .int a3]) (st := [.int 0]) (M := sM Ln I2 L2 c s) (o := (none, .int 0, sM Ln I2 L2 c s)) rfl rfl (dd_Af.ret rfl ?_) (by omega)
            show dd_Rn (e + 16) m_X11_oneBeat (50, [.ref 148, .int a1, .int a2, .int a3], [.int 0], sM Ln I2 L2 c s) _
            exact dd_Rn.go 4 (cf' := (4, [.ref 148, .int a1, .int a2, .int (a3 + 1)], [], sM Ln I2 L2 c s)) rfl h (by omega)

theorem w_X11_goesOn_0 {Ln d c s : Nat} {I : Nat → Nat → Int32} {L : Nat → Nat → Int64} {Q : dd_O → Prop} {a1 a2 : Int32} (hd : 28 ≤ d) (h : dd_Rn d m_X11_goesOn (5, [.ref 148, .int a1, .int a2, .int 0, .int 0], [], sM Ln I L c s) Q) : dd_Ev d m_X11_goesOn [.ref 148, .int a1, .int a2] (sM Ln I L c s) Q := by
  obtain ⟨e, rfl⟩ : ∃ e, d = e + 16 := ⟨d - 16, by omega⟩
  show dd_Rn (e + 16) m_X11_goesOn (0, [.ref 148, .int a1, .int a2, .null, .null], [], sM Ln I L c s) Q
  exact dd_Rn.go 4 (cf' := (5, [.ref 148, .int a1, .int a2, .int 0, .int 0], [], sM Ln I L c s)) rfl h (by omega)

theorem w_X11_goesOn_5 {Ln d c s : Nat} {I : Nat → Nat → Int32} {L : Nat → Nat → Int64} {Q : dd_O → Prop} {a1 a2 a3 a4 : Int32} (hd : 28 ≤ d) (h : ((a1 ≤ a4 → Q (none, .int a3, sM Ln I L c s)) ∧ (¬ (a1 ≤ a4) → dd_Ev (d - 1) m_X11_oneBeat [.ref 148, .int a2] (sM Ln I L c s) (dd_RI Ln c s (fun x1 I1 L1 => dd_Rn d m_X11_goesOn (5, [.ref 148, .int a1, .int a2, .int (a3 + x1), .int (a4 + 1)], [], sM Ln I1 L1 c s) Q))))) : dd_Rn d m_X11_goesOn (5, [.ref 148, .int a1, .int a2, .int a3, .int a4], [], sM Ln I L c s) Q := by
  obtain ⟨e, rfl⟩ : ∃ e, d = e + 16 := ⟨d - 16, by omega⟩
  refine dd_Rn.ite 2 (c := a1 ≤ a4) (A := (25, [.ref 148, .int a1, .int a2, .int a3, .int a4], [], sM Ln I L c s)) (B := (11, [.ref 148, .int a1, .int a2, .int a3, .int a4], [], sM Ln I L c s)) rfl (fun hc => ?_) (fun hc => ?_) (by omega)
  · have h := h.1 hc
    exact dd_Rn.retK 1 (pc := 26) (ls := [.ref 148, .int a1, .int a2, .int a3, .int a4]) (st := [.int a3]) (M := sM Ln I L c s) (o := (none, .int a3, sM Ln I L c s)) rfl rfl h (by omega)
  · have h := h.2 hc
    refine dd_Rn.cI 3 (pc := 14) (ls := [.ref 148, .int a1, .int a2, .int a3, .int a4]) (st := [.int a2, .ref 148, .int a3]) (x := m_X11_oneBeat) (as := [.ref 148, .int a2]) (rest := [.int a3]) rfl rfl rfl rfl h ?_
    intro x1 I1 L1 h
    show dd_Rn (e + 16) m_X11_goesOn (17, [.ref 148, .int a1, .int a2, .int a3, .int a4], [.int x1, .int a3], sM Ln I1 L1 c s) _
    exact dd_Rn.go 4 (cf' := (5, [.ref 148, .int a1, .int a2, .int (a3 + x1), .int (a4 + 1)], [], sM Ln I1 L1 c s)) rfl h (by omega)

theorem w_X11_keepsAll_0 {Ln d c s : Nat} {I : Nat → Nat → Int32} {L : Nat → Nat → Int64} {Q : dd_O → Prop} (hd : 28 ≤ d) (h : dd_Rn d m_X11_keepsAll (2, [.ref 148, .int 0], [], sM Ln I L c s) Q) : dd_Ev d m_X11_keepsAll [.ref 148] (sM Ln I L c s) Q := by
  obtain ⟨e, rfl⟩ : ∃ e, d = e + 16 := ⟨d - 16, by omega⟩
  show dd_Rn (e + 16) m_X11_keepsAll (0, [.ref 148, .null], [], sM Ln I L c s) Q
  exact dd_Rn.go 2 (cf' := (2, [.ref 148, .int 0], [], sM Ln I L c s)) rfl h (by omega)

theorem w_X11_keepsAll_2 {Ln d c s : Nat} {I : Nat → Nat → Int32} {L : Nat → Nat → Int64} {Q : dd_O → Prop} {a1 : Int32} (hd : 28 ≤ d) (h : (((522 : Int32) ≤ a1 → Q (none, .null, sM Ln I L c s)) ∧ (¬ ((522 : Int32) ≤ a1) → ((0 ≤ a1 ∧ tn a1 < 2220) ∧ ((0 ≤ a1 ∧ tn a1 < 522) ∧ dd_Rn d m_X11_keepsAll (2, [.ref 148, .int (a1 + 1)], [], sM Ln (dd_u I 152 (upd (I 152) (tn a1) (I 149 (tn a1)))) L c s) Q))))) : dd_Rn d m_X11_keepsAll (2, [.ref 148, .int a1], [], sM Ln I L c s) Q := by
  obtain ⟨e, rfl⟩ : ∃ e, d = e + 16 := ⟨d - 16, by omega⟩
  refine dd_Rn.ite 2 (c := (522 : Int32) ≤ a1) (A := (27, [.ref 148, .int a1], [], sM Ln I L c s)) (B := (9, [.ref 148, .int a1], [], sM Ln I L c s)) rfl (fun hc => ?_) (fun hc => ?_) (by omega)
  · have h := h.1 hc
    exact dd_Rn.retK 0 (pc := 27) (ls := [.ref 148, .int a1]) (st := []) (M := sM Ln I L c s) (o := (none, .null, sM Ln I L c s)) rfl rfl h (by omega)
  · have h := h.2 hc
    obtain ⟨hc, h⟩ := h
    refine dd_Rn.chk 6 (c := 0 ≤ a1 ∧ tn a1 < 2220) (A := (20, [.ref 148, .int a1], [.int (I 149 (tn a1)), .int a1, .ref 152], sM Ln I L c s)) rfl hc ?_ (by omega)
    obtain ⟨hc, h⟩ := h
    refine dd_Rn.chk 0 (c := 0 ≤ a1 ∧ tn a1 < 522) (A := (21, [.ref 148, .int a1], [], sM Ln (dd_u I 152 (upd (I 152) (tn a1) (I 149 (tn a1)))) L c s)) rfl hc ?_ (by omega)
    exact dd_Rn.go 2 (cf' := (2, [.ref 148, .int (a1 + 1)], [], sM Ln (dd_u I 152 (upd (I 152) (tn a1) (I 149 (tn a1)))) L c s)) rfl h (by omega)

theorem w_X11_bringsBack_0 {Ln d c s : Nat} {I : Nat → Nat → Int32} {L : Nat → Nat → Int64} {Q : dd_O → Prop} (hd : 28 ≤ d) (h : dd_Rn d m_X11_bringsBack (2, [.ref 148, .int 0], [], sM Ln I L c s) Q) : dd_Ev d m_X11_bringsBack [.ref 148] (sM Ln I L c s) Q := by
  obtain ⟨e, rfl⟩ : ∃ e, d = e + 16 := ⟨d - 16, by omega⟩
  show dd_Rn (e + 16) m_X11_bringsBack (0, [.ref 148, .null], [], sM Ln I L c s) Q
  exact dd_Rn.go 2 (cf' := (2, [.ref 148, .int 0], [], sM Ln I L c s)) rfl h (by omega)

theorem w_X11_bringsBack_2 {Ln d c s : Nat} {I : Nat → Nat → Int32} {L : Nat → Nat → Int64} {Q : dd_O → Prop} {a1 : Int32} (hd : 28 ≤ d) (h : (((522 : Int32) ≤ a1 → Q (none, .null, sM Ln I L c s)) ∧ (¬ ((522 : Int32) ≤ a1) → ((0 ≤ a1 ∧ tn a1 < 522) ∧ ((0 ≤ a1 ∧ tn a1 < 2220) ∧ dd_Rn d m_X11_bringsBack (2, [.ref 148, .int (a1 + 1)], [], sM Ln (dd_u I 149 (upd (I 149) (tn a1) (I 152 (tn a1)))) L c s) Q))))) : dd_Rn d m_X11_bringsBack (2, [.ref 148, .int a1], [], sM Ln I L c s) Q := by
  obtain ⟨e, rfl⟩ : ∃ e, d = e + 16 := ⟨d - 16, by omega⟩
  refine dd_Rn.ite 2 (c := (522 : Int32) ≤ a1) (A := (27, [.ref 148, .int a1], [], sM Ln I L c s)) (B := (9, [.ref 148, .int a1], [], sM Ln I L c s)) rfl (fun hc => ?_) (fun hc => ?_) (by omega)
  · have h := h.1 hc
    exact dd_Rn.retK 0 (pc := 27) (ls := [.ref 148, .int a1]) (st := []) (M := sM Ln I L c s) (o := (none, .null, sM Ln I L c s)) rfl rfl h (by omega)
  · have h := h.2 hc
    obtain ⟨hc, h⟩ := h
    refine dd_Rn.chk 6 (c := 0 ≤ a1 ∧ tn a1 < 522) (A := (20, [.ref 148, .int a1], [.int (I 152 (tn a1)), .int a1, .ref 149], sM Ln I L c s)) rfl hc ?_ (by omega)
    obtain ⟨hc, h⟩ := h
    refine dd_Rn.chk 0 (c := 0 ≤ a1 ∧ tn a1 < 2220) (A := (21, [.ref 148, .int a1], [], sM Ln (dd_u I 149 (upd (I 149) (tn a1) (I 152 (tn a1)))) L c s)) rfl hc ?_ (by omega)
    exact dd_Rn.go 2 (cf' := (2, [.ref 148, .int (a1 + 1)], [], sM Ln (dd_u I 149 (upd (I 149) (tn a1) (I 152 (tn a1)))) L c s)) rfl h (by omega)

theorem w_X11_aheadOf_0 {Ln d c s : Nat} {I : Nat → Nat → Int32} {L : Nat → Nat → Int64} {Q : dd_O → Prop} {a1 a2 : Int32} (hd : 28 ≤ d) (h : dd_Ev (d - 1) m_X11_keepsAll [.ref 148] (sM Ln I L c s) (dd_RV Ln c s (fun I1 L1 => dd_Ev (d - 1) m_X11_goesOn [.ref 148, .int a2, .int 1] (sM Ln I1 L1 c s) (dd_RI Ln c s (fun x2 I2 L2 => ((0 ≤ ((187 : Int32) + ((5 : Int32) * a1)) + 0 ∧ tn (((187 : Int32) + ((5 : Int32) * a1)) + 0) < 2220) ∧ dd_Ev (d - 1) m_X11_bringsBack [.ref 148] (sM Ln I2 L2 c s) (dd_RV Ln c s (fun I3 L3 => Q (none, .int (I2 149 (tn (((187 : Int32) + ((5 : Int32) * a1)) + 0))), sM Ln I3 L3 c s))))))))) : dd_Ev d m_X11_aheadOf [.ref 148, .int a1, .int a2] (sM Ln I L c s) Q := by
  obtain ⟨e, rfl⟩ : ∃ e, d = e + 16 := ⟨d - 16, by omega⟩
  show dd_Rn (e + 16) m_X11_aheadOf (0, [.ref 148, .int a1, .int a2, .null], [], sM Ln I L c s) Q
  refine dd_Rn.cV 1 (pc := 1) (ls := [.ref 148, .int a1, .int a2, .null]) (st := [.ref 148]) (x := m_X11_keepsAll) (as := [.ref 148]) (rest := []) rfl rfl rfl rfl h ?_
  intro I1 L1 h
  show dd_Rn (e + 16) m_X11_aheadOf (4, [.ref 148, .int a1, .int a2, .null], [], sM Ln I1 L1 c s) _
  refine dd_Rn.cI 3 (pc := 7) (ls := [.ref 148, .int a1, .int a2, .null]) (st := [.int 1, .int a2, .ref 148]) (x := m_X11_goesOn) (as := [.ref 148, .int a2, .int 1]) (rest := []) rfl rfl rfl rfl h ?_
  intro x2 I2 L2 h
  show dd_Rn (e + 16) m_X11_aheadOf (10, [.ref 148, .int a1, .int a2, .null], [.int x2], sM Ln I2 L2 c s) _
  refine dd_Rn.sub 4 (pc := 14) (ls := [.ref 148, .int a1, .int a2, .null]) (st := [.int 0, .int a1, .ref 148]) (M := sM Ln I2 L2 c s) (x := m_X11_of) (as := [.ref 148, .int a1, .int 0]) (rest := []) rfl rfl rfl rfl ?_
  show dd_Rn (e + 15) m_X11_of (0, [.ref 148, .int a1, .int 0], [], sM Ln I2 L2 c s) _
  refine dd_Rn.sub 4 (pc := 6) (ls := [.ref 148, .int a1, .int 0]) (st := [.int 0, .int a1, .ref 149]) (M := sM Ln I2 L2 c s) (x := m_X11_at) (as := [.int a1, .int 0]) (rest := [.ref 149]) rfl rfl rfl rfl ?_
  show dd_Rn (e + 14) m_X11_at (0, [.int a1, .int 0], [], sM Ln I2 L2 c s) _
  refine dd_Rn.retK 7 (pc := 9) (ls := [.int a1, .int 0]) (st := [.int (((187 : Int32) + ((5 : Int32) * a1)) + 0)]) (M := sM Ln I2 L2 c s) (o := (none, .int (((187 : Int32) + ((5 : Int32) * a1)) + 0), sM Ln I2 L2 c s)) rfl rfl (dd_Af.ret rfl ?_) (by omega)
  show dd_Rn (e + 15) m_X11_of (9, [.ref 148, .int a1, .int 0], [.int (((187 : Int32) + ((5 : Int32) * a1)) + 0), .ref 149], sM Ln I2 L2 c s) _
  obtain ⟨hc, h⟩ := h
  refine dd_Rn.chk 0 (c := 0 ≤ ((187 : Int32) + ((5 : Int32) * a1)) + 0 ∧ tn (((187 : Int32) + ((5 : Int32) * a1)) + 0) < 2220) (A := (10, [.ref 148, .int a1, .int 0], [.int (I2 149 (tn (((187 : Int32) + ((5 : Int32) * a1)) + 0)))], sM Ln I2 L2 c s)) rfl hc ?_ (by omega)
  refine dd_Rn.retK 0 (pc := 10) (ls := [.ref 148, .int a1, .int 0]) (st := [.int (I2 149 (tn (((187 : Int32) + ((5 : Int32) * a1)) + 0)))]) (M := sM Ln I2 L2 c s) (o := (none, .int (I2 149 (tn (((187 : Int32) + ((5 : Int32) * a1)) + 0))), sM Ln I2 L2 c s)) rfl rfl (dd_Af.ret rfl ?_) (by omega)
  show dd_Rn (e + 16) m_X11_aheadOf (17, [.ref 148, .int a1, .int a2, .null], [.int (I2 149 (tn (((187 : Int32) + ((5 : Int32) * a1)) + 0)))], sM Ln I2 L2 c s) _
  refine dd_Rn.cV 2 (pc := 19) (ls := [.ref 148, .int a1, .int a2, .int (I2 149 (tn (((187 : Int32) + ((5 : Int32) * a1)) + 0)))]) (st := [.ref 148]) (x := m_X11_bringsBack) (as := [.ref 148]) (rest := []) rfl rfl rfl rfl h ?_
  intro I3 L3 h
  show dd_Rn (e + 16) m_X11_aheadOf (22, [.ref 148, .int a1, .int a2, .int (I2 149 (tn (((187 : Int32) + ((5 : Int32) * a1)) + 0)))], [], sM Ln I3 L3 c s) _
  exact dd_Rn.retK 1 (pc := 23) (ls := [.ref 148, .int a1, .int a2, .int (I2 149 (tn (((187 : Int32) + ((5 : Int32) * a1)) + 0)))]) (st := [.int (I2 149 (tn (((187 : Int32) + ((5 : Int32) * a1)) + 0)))]) (M := sM Ln I3 L3 c s) (o := (none, .int (I2 149 (tn (((187 : Int32) + ((5 : Int32) * a1)) + 0))), sM Ln I3 L3 c s)) rfl rfl h (by omega)

theorem w_X11_badOfAll_0 {Ln d c s : Nat} {I : Nat → Nat → Int32} {L : Nat → Nat → Int64} {Q : dd_O → Prop} (hd : 28 ≤ d) (h : dd_Rn d m_X11_badOfAll (4, [.ref 148, .int 0, .int 0], [], sM Ln I L c s) Q) : dd_Ev d m_X11_badOfAll [.ref 148] (sM Ln I L c s) Q := by
  obtain ⟨e, rfl⟩ : ∃ e, d = e + 16 := ⟨d - 16, by omega⟩
  show dd_Rn (e + 16) m_X11_badOfAll (0, [.ref 148, .null, .null], [], sM Ln I L c s) Q
  exact dd_Rn.go 4 (cf' := (4, [.ref 148, .int 0, .int 0], [], sM Ln I L c s)) rfl h (by omega)

theorem w_X11_badOfAll_4 {Ln d c s : Nat} {I : Nat → Nat → Int32} {L : Nat → Nat → Int64} {Q : dd_O → Prop} {a1 a2 : Int32} (hd : 28 ≤ d) (h : ((I 149 1 ≤ a2 → Q (none, .int a1, sM Ln I L c s)) ∧ (¬ (I 149 1 ≤ a2) → ((0 ≤ ((187 : Int32) + ((5 : Int32) * a2)) + 4 ∧ tn (((187 : Int32) + ((5 : Int32) * a2)) + 4) < 2220) ∧ dd_Rn d m_X11_badOfAll (4, [.ref 148, .int (a1 + (I 149 (tn (((187 : Int32) + ((5 : Int32) * a2)) + 4)))), .int (a2 + 1)], [], sM Ln I L c s) Q)))) : dd_Rn d m_X11_badOfAll (4, [.ref 148, .int a1, .int a2], [], sM Ln I L c s) Q := by
  obtain ⟨e, rfl⟩ : ∃ e, d = e + 16 := ⟨d - 16, by omega⟩
  refine dd_Rn.sub 2 (pc := 6) (ls := [.ref 148, .int a1, .int a2]) (st := [.ref 148, .int a2]) (M := sM Ln I L c s) (x := m_X11_boys) (as := [.ref 148]) (rest := [.int a2]) rfl rfl rfl rfl ?_
  show dd_Rn (e + 15) m_X11_boys (0, [.ref 148], [], sM Ln I L c s) _
  refine dd_Rn.retK 4 (pc := 6) (ls := [.ref 148]) (st := [.int (I 149 1)]) (M := sM Ln I L c s) (o := (none, .int (I 149 1), sM Ln I L c s)) rfl rfl (dd_Af.ret rfl ?_) (by omega)
  show dd_Rn (e + 16) m_X11_badOfAll (9, [.ref 148, .int a1, .int a2], [.int (I 149 1), .int a2], sM Ln I L c s) _
  refine dd_Rn.ite 0 (c := I 149 1 ≤ a2) (A := (27, [.ref 148, .int a1, .int a2], [], sM Ln I L c s)) (B := (12, [.ref 148, .int a1, .int a2], [], sM Ln I L c s)) rfl (fun hc => ?_) (fun hc => ?_) (by omega)
  · have h := h.1 hc
    exact dd_Rn.retK 1 (pc := 28) (ls := [.ref 148, .int a1, .int a2]) (st := [.int a1]) (M := sM Ln I L c s) (o := (none, .int a1, sM Ln I L c s)) rfl rfl h (by omega)
  · have h := h.2 hc
    refine dd_Rn.sub 4 (pc := 16) (ls := [.ref 148, .int a1, .int a2]) (st := [.int 4, .int a2, .ref 148, .int a1]) (M := sM Ln I L c s) (x := m_X11_of) (as := [.ref 148, .int a2, .int 4]) (rest := [.int a1]) rfl rfl rfl rfl ?_
    show dd_Rn (e + 15) m_X11_of (0, [.ref 148, .int a2, .int 4], [], sM Ln I L c s) _
    refine dd_Rn.sub 4 (pc := 6) (ls := [.ref 148, .int a2, .int 4]) (st := [.int 4, .int a2, .ref 149]) (M := sM Ln I L c s) (x := m_X11_at) (as := [.int a2, .int 4]) (rest := [.ref 149]) rfl rfl rfl rfl ?_
    show dd_Rn (e + 14) m_X11_at (0, [.int a2, .int 4], [], sM Ln I L c s) _
    refine dd_Rn.retK 7 (pc := 9) (ls := [.int a2, .int 4]) (st := [.int (((187 : Int32) + ((5 : Int32) * a2)) + 4)]) (M := sM Ln I L c s) (o := (none, .int (((187 : Int32) + ((5 : Int32) * a2)) + 4), sM Ln I L c s)) rfl rfl (dd_Af.ret rfl ?_) (by omega)
    show dd_Rn (e + 15) m_X11_of (9, [.ref 148, .int a2, .int 4], [.int (((187 : Int32) + ((5 : Int32) * a2)) + 4), .ref 149], sM Ln I L c s) _
    obtain ⟨hc, h⟩ := h
    refine dd_Rn.chk 0 (c := 0 ≤ ((187 : Int32) + ((5 : Int32) * a2)) + 4 ∧ tn (((187 : Int32) + ((5 : Int32) * a2)) + 4) < 2220) (A := (10, [.ref 148, .int a2, .int 4], [.int (I 149 (tn (((187 : Int32) + ((5 : Int32) * a2)) + 4)))], sM Ln I L c s)) rfl hc ?_ (by omega)
    refine dd_Rn.retK 0 (pc := 10) (ls := [.ref 148, .int a2, .int 4]) (st := [.int (I 149 (tn (((187 : Int32) + ((5 : Int32) * a2)) + 4)))]) (M := sM Ln I L c s) (o := (none, .int (I 149 (tn (((187 : Int32) + ((5 : Int32) * a2)) + 4))), sM Ln I L c s)) rfl rfl (dd_Af.ret rfl ?_) (by omega)
    show dd_Rn (e + 16) m_X11_badOfAll (19, [.ref 148, .int a1, .int a2], [.int (I 149 (tn (((187 : Int32) + ((5 : Int32) * a2)) + 4))), .int a1], sM Ln I L c s) _
    exact dd_Rn.go 4 (cf' := (4, [.ref 148, .int (a1 + (I 149 (tn (((187 : Int32) + ((5 : Int32) * a2)) + 4)))), .int (a2 + 1)], [], sM Ln I L c s)) rfl h (by omega)

theorem w_X11_shareOf_0 {Ln d c s : Nat} {I : Nat → Nat → Int32} {L : Nat → Nat → Int64} {Q : dd_O → Prop} {a1 : Int32} (hd : 28 ≤ d) (h : dd_Ev (d - 1) m_X11_badOfAll [.ref 148] (sM Ln I L c s) (dd_RI Ln c s (fun x1 I1 L1 => ((x1 = 0 → Q (none, .int 0, sM Ln I1 L1 c s)) ∧ (¬ (x1 = 0) → ((0 ≤ ((187 : Int32) + ((5 : Int32) * a1)) + 4 ∧ tn (((187 : Int32) + ((5 : Int32) * a1)) + 4) < 2220) ∧ (¬ (x1 = 0) ∧ Q (none, .int (((100 : Int32) * (I1 149 (tn (((187 : Int32) + ((5 : Int32) * a1)) + 4)))) / x1), sM Ln I1 L1 c s)))))))) : dd_Ev d m_X11_shareOf [.ref 148, .int a1] (sM Ln I L c s) Q := by
  obtain ⟨e, rfl⟩ : ∃ e, d = e + 16 := ⟨d - 16, by omega⟩
  show dd_Rn (e + 16) m_X11_shareOf (0, [.ref 148, .int a1, .null], [], sM Ln I L c s) Q
  refine dd_Rn.cI 1 (pc := 1) (ls := [.ref 148, .int a1, .null]) (st := [.ref 148]) (x := m_X11_badOfAll) (as := [.ref 148]) (rest := []) rfl rfl rfl rfl h ?_
  intro x1 I1 L1 h
  show dd_Rn (e + 16) m_X11_shareOf (4, [.ref 148, .int a1, .null], [.int x1], sM Ln I1 L1 c s) _
  refine dd_Rn.ite 2 (c := x1 = 0) (A := (9, [.ref 148, .int a1, .int x1], [], sM Ln I1 L1 c s)) (B := (13, [.ref 148, .int a1, .int x1], [], sM Ln I1 L1 c s)) rfl (fun hc => ?_) (fun hc => ?_) (by omega)
  · have h := h.1 hc
    exact dd_Rn.retK 2 (pc := 24) (ls := [.ref 148, .int a1, .int x1]) (st := [.int 0]) (M := sM Ln I1 L1 c s) (o := (none, .int 0, sM Ln I1 L1 c s)) rfl rfl h (by omega)
  · have h := h.2 hc
    refine dd_Rn.sub 4 (pc := 18) (ls := [.ref 148, .int a1, .int x1]) (st := [.int 4, .int a1, .ref 148, .int 100]) (M := sM Ln I1 L1 c s) (x := m_X11_of) (as := [.ref 148, .int a1, .int 4]) (rest := [.int 100]) rfl rfl rfl rfl ?_
    show dd_Rn (e + 15) m_X11_of (0, [.ref 148, .int a1, .int 4], [], sM Ln I1 L1 c s) _
    refine dd_Rn.sub 4 (pc := 6) (ls := [.ref 148, .int a1, .int 4]) (st := [.int 4, .int a1, .ref 149]) (M := sM Ln I1 L1 c s) (x := m_X11_at) (as := [.int a1, .int 4]) (rest := [.ref 149]) rfl rfl rfl rfl ?_
    show dd_Rn (e + 14) m_X11_at (0, [.int a1, .int 4], [], sM Ln I1 L1 c s) _
    refine dd_Rn.retK 7 (pc := 9) (ls := [.int a1, .int 4]) (st := [.int (((187 : Int32) + ((5 : Int32) * a1)) + 4)]) (M := sM Ln I1 L1 c s) (o := (none, .int (((187 : Int32) + ((5 : Int32) * a1)) + 4), sM Ln I1 L1 c s)) rfl rfl (dd_Af.ret rfl ?_) (by omega)
    show dd_Rn (e + 15) m_X11_of (9, [.ref 148, .int a1, .int 4], [.int (((187 : Int32) + ((5 : Int32) * a1)) + 4), .ref 149], sM Ln I1 L1 c s) _
    obtain ⟨hc, h⟩ := h
    refine dd_Rn.chk 0 (c := 0 ≤ ((187 : Int32) + ((5 : Int32) * a1)) + 4 ∧ tn (((187 : Int32) + ((5 : Int32) * a1)) + 4) < 2220) (A := (10, [.ref 148, .int a1, .int 4], [.int (I1 149 (tn (((187 : Int32) + ((5 : Int32) * a1)) + 4)))], sM Ln I1 L1 c s)) rfl hc ?_ (by omega)
    refine dd_Rn.retK 0 (pc := 10) (ls := [.ref 148, .int a1, .int 4]) (st := [.int (I1 149 (tn (((187 : Int32) + ((5 : Int32) * a1)) + 4)))]) (M := sM Ln I1 L1 c s) (o := (none, .int (I1 149 (tn (((187 : Int32) + ((5 : Int32) * a1)) + 4))), sM Ln I1 L1 c s)) rfl rfl (dd_Af.ret rfl ?_) (by omega)
    show dd_Rn (e + 16) m_X11_shareOf (21, [.ref 148, .int a1, .int x1], [.int (I1 149 (tn (((187 : Int32) + ((5 : Int32) * a1)) + 4))), .int 100], sM Ln I1 L1 c s) _
    obtain ⟨hc, h⟩ := h
    refine dd_Rn.chkN 2 (c := x1 = 0) (A := (24, [.ref 148, .int a1, .int x1], [.int (((100 : Int32) * (I1 149 (tn (((187 : Int32) + ((5 : Int32) * a1)) + 4)))) / x1)], sM Ln I1 L1 c s)) rfl hc ?_ (by omega)
    exact dd_Rn.retK 0 (pc := 24) (ls := [.ref 148, .int a1, .int x1]) (st := [.int (((100 : Int32) * (I1 149 (tn (((187 : Int32) + ((5 : Int32) * a1)) + 4)))) / x1)]) (M := sM Ln I1 L1 c s) (o := (none, .int (((100 : Int32) * (I1 149 (tn (((187 : Int32) + ((5 : Int32) * a1)) + 4)))) / x1), sM Ln I1 L1 c s)) rfl rfl h (by omega)

theorem w_X11_isNow_0 {Ln d c s : Nat} {I : Nat → Nat → Int32} {L : Nat → Nat → Int64} {Q : dd_O → Prop} {a1 a2 : Int32} (hd : 28 ≤ d) (h : dd_Ev (d - 1) m_X11_remembers [.ref 148] (sM Ln I L c s) (dd_RV Ln c s (fun I1 L1 => ((0 ≤ a1 ∧ tn a1 < 2220) ∧ ((0 ≤ a1 ∧ tn a1 < 2220) ∧ Q (none, .int (I1 149 (tn a1)), sM Ln (dd_u I1 149 (upd (I1 149) (tn a1) a2)) L1 c s)))))) : dd_Ev d m_X11_isNow [.ref 148, .int a1, .int a2] (sM Ln I L c s) Q := by
  obtain ⟨e, rfl⟩ : ∃ e, d = e + 16 := ⟨d - 16, by omega⟩
  show dd_Rn (e + 16) m_X11_isNow (0, [.ref 148, .int a1, .int a2, .null], [], sM Ln I L c s) Q
  refine dd_Rn.cV 1 (pc := 1) (ls := [.ref 148, .int a1, .int a2, .null]) (st := [.ref 148]) (x := m_X11_remembers) (as := [.ref 148]) (rest := []) rfl rfl rfl rfl h ?_
  intro I1 L1 h
  show dd_Rn (e + 16) m_X11_isNow (4, [.ref 148, .int a1, .int a2, .null], [], sM Ln I1 L1 c s) _
  obtain ⟨hc, h⟩ := h
  refine dd_Rn.chk 3 (c := 0 ≤ a1 ∧ tn a1 < 2220) (A := (10, [.ref 148, .int a1, .int a2, .null], [.int (I1 149 (tn a1))], sM Ln I1 L1 c s)) rfl hc ?_ (by omega)
  obtain ⟨hc, h⟩ := h
  refine dd_Rn.chk 5 (c := 0 ≤ a1 ∧ tn a1 < 2220) (A := (18, [.ref 148, .int a1, .int a2, .int (I1 149 (tn a1))], [], sM Ln (dd_u I1 149 (upd (I1 149) (tn a1) a2)) L1 c s)) rfl hc ?_ (by omega)
  exact dd_Rn.retK 1 (pc := 19) (ls := [.ref 148, .int a1, .int a2, .int (I1 149 (tn a1))]) (st := [.int (I1 149 (tn a1))]) (M := sM Ln (dd_u I1 149 (upd (I1 149) (tn a1) a2)) L1 c s) (o := (none, .int (I1 149 (tn a1)), sM Ln (dd_u I1 149 (upd (I1 149) (tn a1) a2)) L1 c s)) rfl rfl h (by omega)

theorem w_X11_outOnes_0 {Ln d c s : Nat} {I : Nat → Nat → Int32} {L : Nat → Nat → Int64} {Q : dd_O → Prop} (hd : 28 ≤ d) (h : dd_Rn d m_X11_outOnes (4, [.ref 148, .int 0, .int 0], [], sM Ln I L c s) Q) : dd_Ev d m_X11_outOnes [.ref 148] (sM Ln I L c s) Q := by
  obtain ⟨e, rfl⟩ : ∃ e, d = e + 16 := ⟨d - 16, by omega⟩
  show dd_Rn (e + 16) m_X11_outOnes (0, [.ref 148, .null, .null], [], sM Ln I L c s) Q
  exact dd_Rn.go 4 (cf' := (4, [.ref 148, .int 0, .int 0], [], sM Ln I L c s)) rfl h (by omega)

theorem w_X11_outOnes_4 {Ln d c s : Nat} {I : Nat → Nat → Int32} {L : Nat → Nat → Int64} {Q : dd_O → Prop} {a1 a2 : Int32} (hd : 28 ≤ d) (h : ((I 149 1 ≤ a2 → Q (none, .int a1, sM Ln I L c s)) ∧ (¬ (I 149 1 ≤ a2) → ((0 ≤ ((187 : Int32) + ((5 : Int32) * a2)) + 3 ∧ tn (((187 : Int32) + ((5 : Int32) * a2)) + 3) < 2220) ∧ ((I 149 (tn (((187 : Int32) + ((5 : Int32) * a2)) + 3)) = 1 → dd_Rn d m_X11_outOnes (4, [.ref 148, .int (a1 ||| 0), .int (a2 + 1)], [], sM Ln I L c s) Q) ∧ (¬ (I 149 (tn (((187 : Int32) + ((5 : Int32) * a2)) + 3)) = 1) → dd_Rn d m_X11_outOnes (4, [.ref 148, .int (a1 ||| ((1 : Int32) <<< (a2 &&& 31))), .int (a2 + 1)], [], sM Ln I L c s) Q)))))) : dd_Rn d m_X11_outOnes (4, [.ref 148, .int a1, .int a2], [], sM Ln I L c s) Q := by
  obtain ⟨e, rfl⟩ : ∃ e, d = e + 16 := ⟨d - 16, by omega⟩
  refine dd_Rn.sub 2 (pc := 6) (ls := [.ref 148, .int a1, .int a2]) (st := [.ref 148, .int a2]) (M := sM Ln I L c s) (x := m_X11_boys) (as := [.ref 148]) (rest := [.int a2]) rfl rfl rfl rfl ?_
  show dd_Rn (e + 15) m_X11_boys (0, [.ref 148], [], sM Ln I L c s) _
  refine dd_Rn.retK 4 (pc := 6) (ls := [.ref 148]) (st := [.int (I 149 1)]) (M := sM Ln I L c s) (o := (none, .int (I 149 1), sM Ln I L c s)) rfl rfl (dd_Af.ret rfl ?_) (by omega)
  show dd_Rn (e + 16) m_X11_outOnes (9, [.ref 148, .int a1, .int a2], [.int (I 149 1), .int a2], sM Ln I L c s) _
  refine dd_Rn.ite 0 (c := I 149 1 ≤ a2) (A := (36, [.ref 148, .int a1, .int a2], [], sM Ln I L c s)) (B := (12, [.ref 148, .int a1, .int a2], [], sM Ln I L c s)) rfl (fun hc => ?_) (fun hc => ?_) (by omega)
  · have h := h.1 hc
    exact dd_Rn.retK 1 (pc := 37) (ls := [.ref 148, .int a1, .int a2]) (st := [.int a1]) (M := sM Ln I L c s) (o := (none, .int a1, sM Ln I L c s)) rfl rfl h (by omega)
  · have h := h.2 hc
    refine dd_Rn.sub 3 (pc := 15) (ls := [.ref 148, .int a1, .int a2]) (st := [.int a2, .ref 148, .int a1]) (M := sM Ln I L c s) (x := m_X11_isIn) (as := [.ref 148, .int a2]) (rest := [.int a1]) rfl rfl rfl rfl ?_
    show dd_Rn (e + 15) m_X11_isIn (0, [.ref 148, .int a2], [], sM Ln I L c s) _
    refine dd_Rn.sub 3 (pc := 3) (ls := [.ref 148, .int a2]) (st := [.int 3, .int a2, .ref 148]) (M := sM Ln I L c s) (x := m_X11_of) (as := [.ref 148, .int a2, .int 3]) (rest := []) rfl rfl rfl rfl ?_
    show dd_Rn (e + 14) m_X11_of (0, [.ref 148, .int a2, .int 3], [], sM Ln I L c s) _
    refine dd_Rn.sub 4 (pc := 6) (ls := [.ref 148, .int a2, .int 3]) (st := [.int 3, .int a2, .ref 149]) (M := sM Ln I L c s) (x := m_X11_at) (as := [.int a2, .int 3]) (rest := [.ref 149]) rfl rfl rfl rfl ?_
    show dd_Rn (e + 13) m_X11_at (0, [.int a2, .int 3], [], sM Ln I L c s) _
    refine dd_Rn.retK 7 (pc := 9) (ls := [.int a2, .int 3]) (st := [.int (((187 : Int32) + ((5 : Int32) * a2)) + 3)]) (M := sM Ln I L c s) (o := (none, .int (((187 : Int32) + ((5 : Int32) * a2)) + 3), sM Ln I L c s)) rfl rfl (dd_Af.ret rfl ?_) (by omega)
    show dd_Rn (e + 14) m_X11_of (9, [.ref 148, .int a2, .int 3], [.int (((187 : Int32) + ((5 : Int32) * a2)) + 3), .ref 149], sM Ln I L c s) _
    obtain ⟨hc, h⟩ := h
    refine dd_Rn.chk 0 (c := 0 ≤ ((187 : Int32) + ((5 : Int32) * a2)) + 3 ∧ tn (((187 : Int32) + ((5 : Int32) * a2)) + 3) < 2220) (A := (10, [.ref 148, .int a2, .int 3], [.int (I 149 (tn (((187 : Int32) + ((5 : Int32) * a2)) + 3)))], sM Ln I L c s)) rfl hc ?_ (by omega)
    refine dd_Rn.retK 0 (pc := 10) (ls := [.ref 148, .int a2, .int 3]) (st := [.int (I 149 (tn (((187 : Int32) + ((5 : Int32) * a2)) + 3)))]) (M := sM Ln I L c s) (o := (none, .int (I 149 (tn (((187 : Int32) + ((5 : Int32) * a2)) + 3))), sM Ln I L c s)) rfl rfl (dd_Af.ret rfl ?_) (by omega)
    show dd_Rn (e + 15) m_X11_isIn (6, [.ref 148, .int a2], [.int (I 149 (tn (((187 : Int32) + ((5 : Int32) * a2)) + 3)))], sM Ln I L c s) _
    refine dd_Rn.ite 1 (c := I 149 (tn (((187 : Int32) + ((5 : Int32) * a2)) + 3)) = 1) (A := (10, [.ref 148, .int a2], [], sM Ln I L c s)) (B := (14, [.ref 148, .int a2], [], sM Ln I L c s)) rfl (fun hc => ?_) (fun hc => ?_) (by omega)
    · have h := h.1 hc
      refine dd_Rn.retK 2 (pc := 15) (ls := [.ref 148, .int a2]) (st := [.int 1]) (M := sM Ln I L c s) (o := (none, .int 1, sM Ln I L c s)) rfl rfl (dd_Af.ret rfl ?_) (by omega)
      show dd_Rn (e + 16) m_X11_outOnes (18, [.ref 148, .int a1, .int a2], [.int 1, .int a1], sM Ln I L c s) _
      exact dd_Rn.go 7 (cf' := (4, [.ref 148, .int (a1 ||| 0), .int (a2 + 1)], [], sM Ln I L c s)) rfl h (by omega)
    · have h := h.2 hc
      refine dd_Rn.retK 1 (pc := 15) (ls := [.ref 148, .int a2]) (st := [.int 0]) (M := sM Ln I L c s) (o := (none, .int 0, sM Ln I L c s)) rfl rfl (dd_Af.ret rfl ?_) (by omega)
      show dd_Rn (e + 16) m_X11_outOnes (18, [.ref 148, .int a1, .int a2], [.int 0, .int a1], sM Ln I L c s) _
      exact dd_Rn.go 8 (cf' := (4, [.ref 148, .int (a1 ||| ((1 : Int32) <<< (a2 &&& 31))), .int (a2 + 1)], [], sM Ln I L c s)) rfl h (by omega)

theorem w_X11_soonFor_0 {Ln d c s : Nat} {I : Nat → Nat → Int32} {L : Nat → Nat → Int64} {Q : dd_O → Prop} {a1 : Int32} (hd : 28 ≤ d) (h : dd_Rn d m_X11_soonFor (5, [.ref 148, .int a1, .int 101, .int 0], [], sM Ln I L c s) Q) : dd_Ev d m_X11_soonFor [.ref 148, .int a1] (sM Ln I L c s) Q := by
  obtain ⟨e, rfl⟩ : ∃ e, d = e + 16 := ⟨d - 16, by omega⟩
  show dd_Rn (e + 16) m_X11_soonFor (0, [.ref 148, .int a1, .null, .null], [], sM Ln I L c s) Q
  exact dd_Rn.go 4 (cf' := (5, [.ref 148, .int a1, .int 101, .int 0], [], sM Ln I L c s)) rfl h (by omega)

theorem w_X11_soonFor_5 {Ln d c s : Nat} {I : Nat → Nat → Int32} {L : Nat → Nat → Int64} {Q : dd_O → Prop} {a1 a2 a3 : Int32} (hd : 28 ≤ d) (h : (((100 : Int32) < a3 → dd_Ev (d - 1) m_X11_bringsBack [.ref 148] (sM Ln I L c s) (dd_RV Ln c s (fun I1 L1 => Q (none, .int a2, sM Ln I1 L1 c s)))) ∧ (¬ ((100 : Int32) < a3) → ((a2 = 101 → dd_Ev (d - 1) m_X11_outOnes [.ref 148] (sM Ln I L c s) (dd_RI Ln c s (fun x2 I2 L2 => ((x2 &&& a1 = 0 → dd_Ev (d - 1) m_X11_oneBeat [.ref 148, .int 1] (sM Ln I2 L2 c s) (dd_RI Ln c s (fun x3 I3 L3 => dd_Rn d m_X11_soonFor (5, [.ref 148, .int a1, .int a3, .int (a3 + 1)], [], sM Ln I3 L3 c s) Q))) ∧ (¬ (x2 &&& a1 = 0) → dd_Ev (d - 1) m_X11_oneBeat [.ref 148, .int 1] (sM Ln I2 L2 c s) (dd_RI Ln c s (fun x4 I4 L4 => dd_Rn d m_X11_soonFor (5, [.ref 148, .int a1, .int 101, .int (a3 + 1)], [], sM Ln I4 L4 c s) Q))))))) ∧ (¬ (a2 = 101) → dd_Ev (d - 1) m_X11_bringsBack [.ref 148] (sM Ln I L c s) (dd_RV Ln c s (fun I5 L5 => Q (none, .int a2, sM Ln I5 L5 c s)))))))) : dd_Rn d m_X11_soonFor (5, [.ref 148, .int a1, .int a2, .int a3], [], sM Ln I L c s) Q := by
  obtain ⟨e, rfl⟩ : ∃ e, d = e + 16 := ⟨d - 16, by omega⟩
  refine dd_Rn.ite 2 (c := (100 : Int32) < a3) (A := (45, [.ref 148, .int a1, .int a2, .int a3], [], sM Ln I L c s)) (B := (11, [.ref 148, .int a1, .int a2, .int a3], [], sM Ln I L c s)) rfl (fun hc => ?_) (fun hc => ?_) (by omega)
  · have h := h.1 hc
    refine dd_Rn.cV 1 (pc := 46) (ls := [.ref 148, .int a1, .int a2, .int a3]) (st := [.ref 148]) (x := m_X11_bringsBack) (as := [.ref 148]) (rest := []) rfl rfl rfl rfl h ?_
    intro I1 L1 h
    show dd_Rn (e + 16) m_X11_soonFor (49, [.ref 148, .int a1, .int a2, .int a3], [], sM Ln I1 L1 c s) _
    exact dd_Rn.retK 1 (pc := 50) (ls := [.ref 148, .int a1, .int a2, .int a3]) (st := [.int a2]) (M := sM Ln I1 L1 c s) (o := (none, .int a2, sM Ln I1 L1 c s)) rfl rfl h (by omega)
  · have h := h.2 hc
    refine dd_Rn.ite 2 (c := a2 = 101) (A := (17, [.ref 148, .int a1, .int a2, .int a3], [], sM Ln I L c s)) (B := (45, [.ref 148, .int a1, .int a2, .int a3], [], sM Ln I L c s)) rfl (fun hc => ?_) (fun hc => ?_) (by omega)
    · have h := h.1 hc
      refine dd_Rn.cI 1 (pc := 18) (ls := [.ref 148, .int a1, .int a2, .int a3]) (st := [.ref 148]) (x := m_X11_outOnes) (as := [.ref 148]) (rest := []) rfl rfl rfl rfl h ?_
      intro x2 I2 L2 h
      show dd_Rn (e + 16) m_X11_soonFor (21, [.ref 148, .int a1, .int a2, .int a3], [.int x2], sM Ln I2 L2 c s) _
      refine dd_Rn.ite 2 (c := x2 &&& a1 = 0) (A := (26, [.ref 148, .int a1, .int a2, .int a3], [], sM Ln I2 L2 c s)) (B := (30, [.ref 148, .int a1, .int a2, .int a3], [], sM Ln I2 L2 c s)) rfl (fun hc => ?_) (fun hc => ?_) (by omega)
      · have h := h.1 hc
        refine dd_Rn.cI 5 (pc := 35) (ls := [.ref 148, .int a1, .int a3, .int a3]) (st := [.int 1, .ref 148]) (x := m_X11_oneBeat) (as := [.ref 148, .int 1]) (rest := []) rfl rfl rfl rfl h ?_
        intro x3 I3 L3 h
        show dd_Rn (e + 16) m_X11_soonFor (38, [.ref 148, .int a1, .int a3, .int a3], [.int x3], sM Ln I3 L3 c s) _
        exact dd_Rn.go 3 (cf' := (5, [.ref 148, .int a1, .int a3, .int (a3 + 1)], [], sM Ln I3 L3 c s)) rfl h (by omega)
      · have h := h.2 hc
        refine dd_Rn.cI 4 (pc := 35) (ls := [.ref 148, .int a1, .int 101, .int a3]) (st := [.int 1, .ref 148]) (x := m_X11_oneBeat) (as := [.ref 148, .int 1]) (rest := []) rfl rfl rfl rfl h ?_
        intro x4 I4 L4 h
        show dd_Rn (e + 16) m_X11_soonFor (38, [.ref 148, .int a1, .int 101, .int a3], [.int x4], sM Ln I4 L4 c s) _
        exact dd_Rn.go 3 (cf' := (5, [.ref 148, .int a1, .int 101, .int (a3 + 1)], [], sM Ln I4 L4 c s)) rfl h (by omega)
    · have h := h.2 hc
      refine dd_Rn.cV 1 (pc := 46) (ls := [.ref 148, .int a1, .int a2, .int a3]) (st := [.ref 148]) (x := m_X11_bringsBack) (as := [.ref 148]) (rest := []) rfl rfl rfl rfl h ?_
      intro I5 L5 h
      show dd_Rn (e + 16) m_X11_soonFor (49, [.ref 148, .int a1, .int a2, .int a3], [], sM Ln I5 L5 c s) _
      exact dd_Rn.retK 1 (pc := 50) (ls := [.ref 148, .int a1, .int a2, .int a3]) (st := [.int a2]) (M := sM Ln I5 L5 c s) (o := (none, .int a2, sM Ln I5 L5 c s)) rfl rfl h (by omega)

theorem w_X11_soonOf_0 {Ln d c s : Nat} {I : Nat → Nat → Int32} {L : Nat → Nat → Int64} {Q : dd_O → Prop} {a1 : Int32} (hd : 28 ≤ d) (h : dd_Ev (d - 1) m_X11_keepsAll [.ref 148] (sM Ln I L c s) (dd_RV Ln c s (fun I1 L1 => dd_Ev (d - 1) m_X11_soonFor [.ref 148, .int ((1 : Int32) <<< (a1 &&& 31))] (sM Ln I1 L1 c s) (dd_RI Ln c s (fun x2 I2 L2 => Q (none, .int x2, sM Ln I2 L2 c s)))))) : dd_Ev d m_X11_soonOf [.ref 148, .int a1] (sM Ln I L c s) Q := by
  obtain ⟨e, rfl⟩ : ∃ e, d = e + 16 := ⟨d - 16, by omega⟩
  show dd_Rn (e + 16) m_X11_soonOf (0, [.ref 148, .int a1], [], sM Ln I L c s) Q
  refine dd_Rn.cV 1 (pc := 1) (ls := [.ref 148, .int a1]) (st := [.ref 148]) (x := m_X11_keepsAll) (as := [.ref 148]) (rest := []) rfl rfl rfl rfl h ?_
  intro I1 L1 h
  show dd_Rn (e + 16) m_X11_soonOf (4, [.ref 148, .int a1], [], sM Ln I1 L1 c s) _
  refine dd_Rn.cI 4 (pc := 8) (ls := [.ref 148, .int a1]) (st := [.int ((1 : Int32) <<< (a1 &&& 31)), .ref 148]) (x := m_X11_soonFor) (as := [.ref 148, .int ((1 : Int32) <<< (a1 &&& 31))]) (rest := []) rfl rfl rfl rfl h ?_
  intro x2 I2 L2 h
  show dd_Rn (e + 16) m_X11_soonOf (11, [.ref 148, .int a1], [.int x2], sM Ln I2 L2 c s) _
  exact dd_Rn.retK 0 (pc := 11) (ls := [.ref 148, .int a1]) (st := [.int x2]) (M := sM Ln I2 L2 c s) (o := (none, .int x2, sM Ln I2 L2 c s)) rfl rfl h (by omega)

theorem w_X11_soonBy_0 {Ln d c s : Nat} {I : Nat → Nat → Int32} {L : Nat → Nat → Int64} {Q : dd_O → Prop} {a1 a2 : Int32} (hd : 28 ≤ d) (h : dd_Ev (d - 1) m_X11_keepsAll [.ref 148] (sM Ln I L c s) (dd_RV Ln c s (fun I1 L1 => ((0 ≤ ((187 : Int32) + ((5 : Int32) * a1)) + 1 ∧ tn (((187 : Int32) + ((5 : Int32) * a1)) + 1) < 2220) ∧ dd_Ev (d - 1) m_X11_soonFor [.ref 148, .int ((1 : Int32) <<< (a1 &&& 31))] (sM Ln (dd_u I1 149 (upd (I1 149) (tn (((187 : Int32) + ((5 : Int32) * a1)) + 1)) a2)) L1 c s) (dd_RI Ln c s (fun x2 I2 L2 => Q (none, .int x2, sM Ln I2 L2 c s))))))) : dd_Ev d m_X11_soonBy [.ref 148, .int a1, .int a2] (sM Ln I L c s) Q := by
  obtain ⟨e, rfl⟩ : ∃ e, d = e + 16 := ⟨d - 16, by omega⟩
  show dd_Rn (e + 16) m_X11_soonBy (0, [.ref 148, .int a1, .int a2], [], sM Ln I L c s) Q
  refine dd_Rn.cV 1 (pc := 1) (ls := [.ref 148, .int a1, .int a2]) (st := [.ref 148]) (x := m_X11_keepsAll) (as := [.ref 148]) (rest := []) rfl rfl rfl rfl h ?_
  intro I1 L1 h
  show dd_Rn (e + 16) m_X11_soonBy (4, [.ref 148, .int a1, .int a2], [], sM Ln I1 L1 c s) _
  refine dd_Rn.sub 4 (pc := 10) (ls := [.ref 148, .int a1, .int a2]) (st := [.int 1, .int a1, .ref 149]) (M := sM Ln I1 L1 c s) (x := m_X11_at) (as := [.int a1, .int 1]) (rest := [.ref 149]) rfl rfl rfl rfl ?_
  show dd_Rn (e + 15) m_X11_at (0, [.int a1, .int 1], [], sM Ln I1 L1 c s) _
  refine dd_Rn.retK 7 (pc := 9) (ls := [.int a1, .int 1]) (st := [.int (((187 : Int32) + ((5 : Int32) * a1)) + 1)]) (M := sM Ln I1 L1 c s) (o := (none, .int (((187 : Int32) + ((5 : Int32) * a1)) + 1), sM Ln I1 L1 c s)) rfl rfl (dd_Af.ret rfl ?_) (by omega)
  show dd_Rn (e + 16) m_X11_soonBy (13, [.ref 148, .int a1, .int a2], [.int (((187 : Int32) + ((5 : Int32) * a1)) + 1), .ref 149], sM Ln I1 L1 c s) _
  obtain ⟨hc, h⟩ := h
  refine dd_Rn.chk 1 (c := 0 ≤ ((187 : Int32) + ((5 : Int32) * a1)) + 1 ∧ tn (((187 : Int32) + ((5 : Int32) * a1)) + 1) < 2220) (A := (15, [.ref 148, .int a1, .int a2], [], sM Ln (dd_u I1 149 (upd (I1 149) (tn (((187 : Int32) + ((5 : Int32) * a1)) + 1)) a2)) L1 c s)) rfl hc ?_ (by omega)
  refine dd_Rn.cI 4 (pc := 19) (ls := [.ref 148, .int a1, .int a2]) (st := [.int ((1 : Int32) <<< (a1 &&& 31)), .ref 148]) (x := m_X11_soonFor) (as := [.ref 148, .int ((1 : Int32) <<< (a1 &&& 31))]) (rest := []) rfl rfl rfl rfl h ?_
  intro x2 I2 L2 h
  show dd_Rn (e + 16) m_X11_soonBy (22, [.ref 148, .int a1, .int a2], [.int x2], sM Ln I2 L2 c s) _
  exact dd_Rn.retK 0 (pc := 22) (ls := [.ref 148, .int a1, .int a2]) (st := [.int x2]) (M := sM Ln I2 L2 c s) (o := (none, .int x2, sM Ln I2 L2 c s)) rfl rfl h (by omega)

theorem w_X11_thinksOf_0 {Ln d c s : Nat} {I : Nat → Nat → Int32} {L : Nat → Nat → Int64} {Q : dd_O → Prop} {a1 a2 a3 a4 : Int32} (hd : 28 ≤ d) (h : ((0 ≤ ((187 : Int32) + ((5 : Int32) * a1)) + 0 ∧ tn (((187 : Int32) + ((5 : Int32) * a1)) + 0) < 2220) ∧ ((0 ≤ ((187 : Int32) + ((5 : Int32) * a1)) + 1 ∧ tn (((187 : Int32) + ((5 : Int32) * a1)) + 1) < 2220) ∧ ((0 ≤ ((187 : Int32) + ((5 : Int32) * a1)) + 2 ∧ tn (((187 : Int32) + ((5 : Int32) * a1)) + 2) < 2220) ∧ ((a2 = (upd (upd (upd (I 149) (tn (((187 : Int32) + ((5 : Int32) * a1)) + 0)) a2) (tn (((187 : Int32) + ((5 : Int32) * a1)) + 1)) a3) (tn (((187 : Int32) + ((5 : Int32) * a1)) + 2)) a4) 4 → ((0 ≤ ((187 : Int32) + ((5 : Int32) * a1)) + 3 ∧ tn (((187 : Int32) + ((5 : Int32) * a1)) + 3) < 2220) ∧ ((0 ≤ ((187 : Int32) + ((5 : Int32) * a1)) + 4 ∧ tn (((187 : Int32) + ((5 : Int32) * a1)) + 4) < 2220) ∧ Q (none, .null, sM Ln (dd_u (dd_u (dd_u (dd_u (dd_u I 149 (upd (I 149) (tn (((187 : Int32) + ((5 : Int32) * a1)) + 0)) a2)) 149 (upd (upd (I 149) (tn (((187 : Int32) + ((5 : Int32) * a1)) + 0)) a2) (tn (((187 : Int32) + ((5 : Int32) * a1)) + 1)) a3)) 149 (upd (upd (upd (I 149) (tn (((187 : Int32) + ((5 : Int32) * a1)) + 0)) a2) (tn (((187 : Int32) + ((5 : Int32) * a1)) + 1)) a3) (tn (((187 : Int32) + ((5 : Int32) * a1)) + 2)) a4)) 149 (upd (upd (upd (upd (I 149) (tn (((187 : Int32) + ((5 : Int32) * a1)) + 0)) a2) (tn (((187 : Int32) + ((5 : Int32) * a1)) + 1)) a3) (tn (((187 : Int32) + ((5 : Int32) * a1)) + 2)) a4) (tn (((187 : Int32) + ((5 : Int32) * a1)) + 3)) 1)) 149 (upd (upd (upd (upd (upd (I 149) (tn (((187 : Int32) + ((5 : Int32) * a1)) + 0)) a2) (tn (((187 : Int32) + ((5 : Int32) * a1)) + 1)) a3) (tn (((187 : Int32) + ((5 : Int32) * a1)) + 2)) a4) (tn (((187 : Int32) + ((5 : Int32) * a1)) + 3)) 1) (tn (((187 : Int32) + ((5 : Int32) * a1)) + 4)) 0)) L c s)))) ∧ (¬ (a2 = (upd (upd (upd (I 149) (tn (((187 : Int32) + ((5 : Int32) * a1)) + 0)) a2) (tn (((187 : Int32) + ((5 : Int32) * a1)) + 1)) a3) (tn (((187 : Int32) + ((5 : Int32) * a1)) + 2)) a4) 4) → ((0 ≤ ((187 : Int32) + ((5 : Int32) * a1)) + 3 ∧ tn (((187 : Int32) + ((5 : Int32) * a1)) + 3) < 2220) ∧ ((0 ≤ ((187 : Int32) + ((5 : Int32) * a1)) + 4 ∧ tn (((187 : Int32) + ((5 : Int32) * a1)) + 4) < 2220) ∧ Q (none, .null, sM Ln (dd_u (dd_u (dd_u (dd_u (dd_u I 149 (upd (I 149) (tn (((187 : Int32) + ((5 : Int32) * a1)) + 0)) a2)) 149 (upd (upd (I 149) (tn (((187 : Int32) + ((5 : Int32) * a1)) + 0)) a2) (tn (((187 : Int32) + ((5 : Int32) * a1)) + 1)) a3)) 149 (upd (upd (upd (I 149) (tn (((187 : Int32) + ((5 : Int32) * a1)) + 0)) a2) (tn (((187 : Int32) + ((5 : Int32) * a1)) + 1)) a3) (tn (((187 : Int32) + ((5 : Int32) * a1)) + 2)) a4)) 149 (upd (upd (upd (upd (I 149) (tn (((187 : Int32) + ((5 : Int32) * a1)) + 0)) a2) (tn (((187 : Int32) + ((5 : Int32) * a1)) + 1)) a3) (tn (((187 : Int32) + ((5 : Int32) * a1)) + 2)) a4) (tn (((187 : Int32) + ((5 : Int32) * a1)) + 3)) 0)) 149 (upd (upd (upd (upd (upd (I 149) (tn (((187 : Int32) + ((5 : Int32) * a1)) + 0)) a2) (tn (((187 : Int32) + ((5 : Int32) * a1)) + 1)) a3) (tn (((187 : Int32) + ((5 : Int32) * a1)) + 2)) a4) (tn (((187 : Int32) + ((5 : Int32) * a1)) + 3)) 0) (tn (((187 : Int32) + ((5 : Int32) * a1)) + 4)) 0)) L c s))))))))) : dd_Ev d m_X11_thinksOf [.ref 148, .int a1, .int a2, .int a3, .int a4] (sM Ln I L c s) Q := by
  obtain ⟨e, rfl⟩ : ∃ e, d = e + 16 := ⟨d - 16, by omega⟩
  show dd_Rn (e + 16) m_X11_thinksOf (0, [.ref 148, .int a1, .int a2, .int a3, .int a4], [], sM Ln I L c s) Q
  refine dd_Rn.sub 4 (pc := 6) (ls := [.ref 148, .int a1, .int a2, .int a3, .int a4]) (st := [.int 0, .int a1, .ref 149]) (M := sM Ln I L c s) (x := m_X11_at) (as := [.int a1, .int 0]) (rest := [.ref 149]) rfl rfl rfl rfl ?_
  show dd_Rn (e + 15) m_X11_at (0, [.int a1, .int 0], [], sM Ln I L c s) _
  refine dd_Rn.retK 7 (pc := 9) (ls := [.int a1, .int 0]) (st := [.int (((187 : Int32) + ((5 : Int32) * a1)) + 0)]) (M := sM Ln I L c s) (o := (none, .int (((187 : Int32) + ((5 : Int32) * a1)) + 0), sM Ln I L c s)) rfl rfl (dd_Af.ret rfl ?_) (by omega)
  show dd_Rn (e + 16) m_X11_thinksOf (9, [.ref 148, .int a1, .int a2, .int a3, .int a4], [.int (((187 : Int32) + ((5 : Int32) * a1)) + 0), .ref 149], sM Ln I L c s) _
  obtain ⟨hc, h⟩ := h
  refine dd_Rn.chk 1 (c := 0 ≤ ((187 : Int32) + ((5 : Int32) * a1)) + 0 ∧ tn (((187 : Int32) + ((5 : Int32) * a1)) + 0) < 2220) (A := (11, [.ref 148, .int a1, .int a2, .int a3, .int a4], [], sM Ln (dd_u I 149 (upd (I 149) (tn (((187 : Int32) + ((5 : Int32) * a1)) + 0)) a2)) L c s)) rfl hc ?_ (by omega)
  refine dd_Rn.sub 4 (pc := 17) (ls := [.ref 148, .int a1, .int a2, .int a3, .int a4]) (st := [.int 1, .int a1, .ref 149]) (M := sM Ln (dd_u I 149 (upd (I 149) (tn (((187 : Int32) + ((5 : Int32) * a1)) + 0)) a2)) L c s) (x := m_X11_at) (as := [.int a1, .int 1]) (rest := [.ref 149]) rfl rfl rfl rfl ?_
  show dd_Rn (e + 15) m_X11_at (0, [.int a1, .int 1], [], sM Ln (dd_u I 149 (upd (I 149) (tn (((187 : Int32) + ((5 : Int32) * a1)) + 0)) a2)) L c s) _
  refine dd_Rn.retK 7 (pc := 9) (ls := [.int a1, .int 1]) (st := [.int (((187 : Int32) + ((5 : Int32) * a1)) + 1)]) (M := sM Ln (dd_u I 149 (upd (I 149) (tn (((187 : Int32) + ((5 : Int32) * a1)) + 0)) a2)) L c s) (o := (none, .int (((187 : Int32) + ((5 : Int32) * a1)) + 1), sM Ln (dd_u I 149 (upd (I 149) (tn (((187 : Int32) + ((5 : Int32) * a1)) + 0)) a2)) L c s)) rfl rfl (dd_Af.ret rfl ?_) (by omega)
  show dd_Rn (e + 16) m_X11_thinksOf (20, [.ref 148, .int a1, .int a2, .int a3, .int a4], [.int (((187 : Int32) + ((5 : Int32) * a1)) + 1), .ref 149], sM Ln (dd_u I 149 (upd (I 149) (tn (((187 : Int32) + ((5 : Int32) * a1)) + 0)) a2)) L c s) _
  obtain ⟨hc, h⟩ := h
  refine dd_Rn.chk 1 (c := 0 ≤ ((187 : Int32) + ((5 : Int32) * a1)) + 1 ∧ tn (((187 : Int32) + ((5 : Int32) * a1)) + 1) < 2220) (A := (22, [.ref 148, .int a1, .int a2, .int a3, .int a4], [], sM Ln (dd_u (dd_u I 149 (upd (I 149) (tn (((187 : Int32) + ((5 : Int32) * a1)) + 0)) a2)) 149 (upd (upd (I 149) (tn (((187 : Int32) + ((5 : Int32) * a1)) + 0)) a2) (tn (((187 : Int32) + ((5 : Int32) * a1)) + 1)) a3)) L c s)) rfl hc ?_ (by omega)
  refine dd_Rn.sub 4 (pc := 28) (ls := [.ref 148, .int a1, .int a2, .int a3, .int a4]) (st := [.int 2, .int a1, .ref 149]) (M := sM Ln (dd_u (dd_u I 149 (upd (I 149) (tn (((187 : Int32) + ((5 : Int32) * a1)) + 0)) a2)) 149 (upd (upd (I 149) (tn (((187 : Int32) + ((5 : Int32) * a1)) + 0)) a2) (tn (((187 : Int32) + ((5 : Int32) * a1)) + 1)) a3)) L c s) (x := m_X11_at) (as := [.int a1, .int 2]) (rest := [.ref 149]) rfl rfl rfl rfl ?_
  show dd_Rn (e + 15) m_X11_at (0, [.int a1, .int 2], [], sM Ln (dd_u (dd_u I 149 (upd (I 149) (tn (((187 : Int32) + ((5 : Int32) * a1)) + 0)) a2)) 149 (upd (upd (I 149) (tn (((187 : Int32) + ((5 : Int32) * a1)) + 0)) a2) (tn (((187 : Int32) + ((5 : Int32) * a1)) + 1)) a3)) L c s) _
  refine dd_Rn.retK 7 (pc := 9) (ls := [.int a1, .int 2]) (st := [.int (((187 : Int32) + ((5 : Int32) * a1)) + 2)]) (M := sM Ln (dd_u (dd_u I 149 (upd (I 149) (tn (((187 : Int32) + ((5 : Int32) * a1)) + 0)) a2)) 149 (upd (upd (I 149) (tn (((187 : Int32) + ((5 : Int32) * a1)) + 0)) a2) (tn (((187 : Int32) + ((5 : Int32) * a1)) + 1)) a3)) L c s) (o := (none, .int (((187 : Int32) + ((5 : Int32) * a1)) + 2), sM Ln (dd_u (dd_u I 149 (upd (I 149) (tn (((187 : Int32) + ((5 : Int32) * a1)) + 0)) a2)) 149 (upd (upd (I 149) (tn (((187 : Int32) + ((5 : Int32) * a1)) + 0)) a2) (tn (((187 : Int32) + ((5 : Int32) * a1)) + 1)) a3)) L c s)) rfl rfl (dd_Af.ret rfl ?_) (by omega)
  show dd_Rn (e + 16) m_X11_thinksOf (31, [.ref 148, .int a1, .int a2, .int a3, .int a4], [.int (((187 : Int32) + ((5 : Int32) * a1)) + 2), .ref 149], sM Ln (dd_u (dd_u I 149 (upd (I 149) (tn (((187 : Int32) + ((5 : Int32) * a1)) + 0)) a2)) 149 (upd (upd (I 149) (tn (((187 : Int32) + ((5 : Int32) * a1)) + 0)) a2) (tn (((187 : Int32) + ((5 : Int32) * a1)) + 1)) a3)) L c s) _
  obtain ⟨hc, h⟩ := h
  refine dd_Rn.chk 1 (c := 0 ≤ ((187 : Int32) + ((5 : Int32) * a1)) + 2 ∧ tn (((187 : Int32) + ((5 : Int32) * a1)) + 2) < 2220) (A := (34, [.ref 148, .int a1, .int a2, .int a3, .int a4], [], sM Ln (dd_u (dd_u (dd_u I 149 (upd (I 149) (tn (((187 : Int32) + ((5 : Int32) * a1)) + 0)) a2)) 149 (upd (upd (I 149) (tn (((187 : Int32) + ((5 : Int32) * a1)) + 0)) a2) (tn (((187 : Int32) + ((5 : Int32) * a1)) + 1)) a3)) 149 (upd (upd (upd (I 149) (tn (((187 : Int32) + ((5 : Int32) * a1)) + 0)) a2) (tn (((187 : Int32) + ((5 : Int32) * a1)) + 1)) a3) (tn (((187 : Int32) + ((5 : Int32) * a1)) + 2)) a4)) L c s)) rfl hc ?_ (by omega)
  refine dd_Rn.sub 4 (pc := 40) (ls := [.ref 148, .int a1, .int a2, .int a3, .int a4]) (st := [.int 3, .int a1, .ref 149]) (M := sM Ln (dd_u (dd_u (dd_u I 149 (upd (I 149) (tn (((187 : Int32) + ((5 : Int32) * a1)) + 0)) a2)) 149 (upd (upd (I 149) (tn (((187 : Int32) + ((5 : Int32) * a1)) + 0)) a2) (tn (((187 : Int32) + ((5 : Int32) * a1)) + 1)) a3)) 149 (upd (upd (upd (I 149) (tn (((187 : Int32) + ((5 : Int32) * a1)) + 0)) a2) (tn (((187 : Int32) + ((5 : Int32) * a1)) + 1)) a3) (tn (((187 : Int32) + ((5 : Int32) * a1)) + 2)) a4)) L c s) (x := m_X11_at) (as := [.int a1, .int 3]) (rest := [.ref 149]) rfl rfl rfl rfl ?_
  show dd_Rn (e + 15) m_X11_at (0, [.int a1, .int 3], [], sM Ln (dd_u (dd_u (dd_u I 149 (upd (I 149) (tn (((187 : Int32) + ((5 : Int32) * a1)) + 0)) a2)) 149 (upd (upd (I 149) (tn (((187 : Int32) + ((5 : Int32) * a1)) + 0)) a2) (tn (((187 : Int32) + ((5 : Int32) * a1)) + 1)) a3)) 149 (upd (upd (upd (I 149) (tn (((187 : Int32) + ((5 : Int32) * a1)) + 0)) a2) (tn (((187 : Int32) + ((5 : Int32) * a1)) + 1)) a3) (tn (((187 : Int32) + ((5 : Int32) * a1)) + 2)) a4)) L c s) _
  refine dd_Rn.retK 7 (pc := 9) (ls := [.int a1, .int 3]) (st := [.int (((187 : Int32) + ((5 : Int32) * a1)) + 3)]) (M := sM Ln (dd_u (dd_u (dd_u I 149 (upd (I 149) (tn (((187 : Int32) + ((5 : Int32) * a1)) + 0)) a2)) 149 (upd (upd (I 149) (tn (((187 : Int32) + ((5 : Int32) * a1)) + 0)) a2) (tn (((187 : Int32) + ((5 : Int32) * a1)) + 1)) a3)) 149 (upd (upd (upd (I 149) (tn (((187 : Int32) + ((5 : Int32) * a1)) + 0)) a2) (tn (((187 : Int32) + ((5 : Int32) * a1)) + 1)) a3) (tn (((187 : Int32) + ((5 : Int32) * a1)) + 2)) a4)) L c s) (o := (none, .int (((187 : Int32) + ((5 : Int32) * a1)) + 3), sM Ln (dd_u (dd_u (dd_u I 149 (upd (I 149) (tn (((187 : Int32) + ((5 : Int32) * a1)) + 0)) a2)) 149 (upd (upd (I 149) (tn (((187 : Int32) + ((5 : Int32) * a1)) + 0)) a2) (tn (((187 : Int32) + ((5 : Int32) * a1)) + 1)) a3)) 149 (upd (upd (upd (I 149) (tn (((187 : Int32) + ((5 : Int32) * a1)) + 0)) a2) (tn (((187 : Int32) + ((5 : Int32) * a1)) + 1)) a3) (tn (((187 : Int32) + ((5 : Int32) * a1)) + 2)) a4)) L c s)) rfl rfl (dd_Af.ret rfl ?_) (by omega)
  show dd_Rn (e + 16) m_X11_thinksOf (43, [.ref 148, .int a1, .int a2, .int a3, .int a4], [.int (((187 : Int32) + ((5 : Int32) * a1)) + 3), .ref 149], sM Ln (dd_u (dd_u (dd_u I 149 (upd (I 149) (tn (((187 : Int32) + ((5 : Int32) * a1)) + 0)) a2)) 149 (upd (upd (I 149) (tn (((187 : Int32) + ((5 : Int32) * a1)) + 0)) a2) (tn (((187 : Int32) + ((5 : Int32) * a1)) + 1)) a3)) 149 (upd (upd (upd (I 149) (tn (((187 : Int32) + ((5 : Int32) * a1)) + 0)) a2) (tn (((187 : Int32) + ((5 : Int32) * a1)) + 1)) a3) (tn (((187 : Int32) + ((5 : Int32) * a1)) + 2)) a4)) L c s) _
  refine dd_Rn.ite 5 (c := a2 = (upd (upd (upd (I 149) (tn (((187 : Int32) + ((5 : Int32) * a1)) + 0)) a2) (tn (((187 : Int32) + ((5 : Int32) * a1)) + 1)) a3) (tn (((187 : Int32) + ((5 : Int32) * a1)) + 2)) a4) 4) (A := (53, [.ref 148, .int a1, .int a2, .int a3, .int a4], [.int (((187 : Int32) + ((5 : Int32) * a1)) + 3), .ref 149], sM Ln (dd_u (dd_u (dd_u I 149 (upd (I 149) (tn (((187 : Int32) + ((5 : Int32) * a1)) + 0)) a2)) 149 (upd (upd (I 149) (tn (((187 : Int32) + ((5 : Int32) * a1)) + 0)) a2) (tn (((187 : Int32) + ((5 : Int32) * a1)) + 1)) a3)) 149 (upd (upd (upd (I 149) (tn (((187 : Int32) + ((5 : Int32) * a1)) + 0)) a2) (tn (((187 : Int32) + ((5 : Int32) * a1)) + 1)) a3) (tn (((187 : Int32) + ((5 : Int32) * a1)) + 2)) a4)) L c s)) (B := (57, [.ref 148, .int a1, .int a2, .int a3, .int a4], [.int (((187 : Int32) + ((5 : Int32) * a1)) + 3), .ref 149], sM Ln (dd_u (dd_u (dd_u I 149 (upd (I 149) (tn (((187 : Int32) + ((5 : Int32) * a1)) + 0)) a2)) 149 (upd (upd (I 149) (tn (((187 : Int32) + ((5 : Int32) * a1)) + 0)) a2) (tn (((187 : Int32) + ((5 : Int32) * a1)) + 1)) a3)) 149 (upd (upd (upd (I 149) (tn (((187 : Int32) + ((5 : Int32) * a1)) + 0)) a2) (tn (((187 : Int32) + ((5 : Int32) * a1)) + 1)) a3) (tn (((187 : Int32) + ((5 : Int32) * a1)) + 2)) a4)) L c s)) rfl (fun hc => ?_) (fun hc => ?_) (by omega)
  · have h := h.1 hc
    obtain ⟨hc, h⟩ := h
    refine dd_Rn.chk 2 (c := 0 ≤ ((187 : Int32) + ((5 : Int32) * a1)) + 3 ∧ tn (((187 : Int32) + ((5 : Int32) * a1)) + 3) < 2220) (A := (59, [.ref 148, .int a1, .int a2, .int a3, .int a4], [], sM Ln (dd_u (dd_u (dd_u (dd_u I 149 (upd (I 149) (tn (((187 : Int32) + ((5 : Int32) * a1)) + 0)) a2)) 149 (upd (upd (I 149) (tn (((187 : Int32) + ((5 : Int32) * a1)) + 0)) a2) (tn (((187 : Int32) + ((5 : Int32) * a1)) + 1)) a3)) 149 (upd (upd (upd (I 149) (tn (((187 : Int32) + ((5 : Int32) * a1)) + 0)) a2) (tn (((187 : Int32) + ((5 : Int32) * a1)) + 1)) a3) (tn (((187 : Int32) + ((5 : Int32) * a1)) + 2)) a4)) 149 (upd (upd (upd (upd (I 149) (tn (((187 : Int32) + ((5 : Int32) * a1)) + 0)) a2) (tn (((187 : Int32) + ((5 : Int32) * a1)) + 1)) a3) (tn (((187 : Int32) + ((5 : Int32) * a1)) + 2)) a4) (tn (((187 : Int32) + ((5 : Int32) * a1)) + 3)) 1)) L c s)) rfl hc ?_ (by omega)
    refine dd_Rn.sub 4 (pc := 65) (ls := [.ref 148, .int a1, .int a2, .int a3, .int a4]) (st := [.int 4, .int a1, .ref 149]) (M := sM Ln (dd_u (dd_u (dd_u (dd_u I 149 (upd (I 149) (tn (((187 : Int32) + ((5 : Int32) * a1)) + 0)) a2)) 149 (upd (upd (I 149) (tn (((187 : Int32) + ((5 : Int32) * a1)) + 0)) a2) (tn (((187 : Int32) + ((5 : Int32) * a1)) + 1)) a3)) 149 (upd (upd (upd (I 149) (tn (((187 : Int32) + ((5 : Int32) * a1)) + 0)) a2) (tn (((187 : Int32) + ((5 : Int32) * a1)) + 1)) a3) (tn (((187 : Int32) + ((5 : Int32) * a1)) + 2)) a4)) 149 (upd (upd (upd (upd (I 149) (tn (((187 : Int32) + ((5 : Int32) * a1)) + 0)) a2) (tn (((187 : Int32) + ((5 : Int32) * a1)) + 1)) a3) (tn (((187 : Int32) + ((5 : Int32) * a1)) + 2)) a4) (tn (((187 : Int32) + ((5 : Int32) * a1)) + 3)) 1)) L c s) (x := m_X11_at) (as := [.int a1, .int 4]) (rest := [.ref 149]) rfl rfl rfl rfl ?_
    show dd_Rn (e + 15) m_X11_at (0, [.int a1, .int 4], [], sM Ln (dd_u (dd_u (dd_u (dd_u I 149 (upd (I 149) (tn (((187 : Int32) + ((5 : Int32) * a1)) + 0)) a2)) 149 (upd (upd (I 149) (tn (((187 : Int32) + ((5 : Int32) * a1)) + 0)) a2) (tn (((187 : Int32) + ((5 : Int32) * a1)) + 1)) a3)) 149 (upd (upd (upd (I 149) (tn (((187 : Int32) + ((5 : Int32) * a1)) + 0)) a2) (tn (((187 : Int32) + ((5 : Int32) * a1)) + 1)) a3) (tn (((187 : Int32) + ((5 : Int32) * a1)) + 2)) a4)) 149 (upd (upd (upd (upd (I 149) (tn (((187 : Int32) + ((5 : Int32) * a1)) + 0)) a2) (tn (((187 : Int32) + ((5 : Int32) * a1)) + 1)) a3) (tn (((187 : Int32) + ((5 : Int32) * a1)) + 2)) a4) (tn (((187 : Int32) + ((5 : Int32) * a1)) + 3)) 1)) L c s) _
    refine dd_Rn.retK 7 (pc := 9) (ls := [.int a1, .int 4]) (st := [.int (((187 : Int32) + ((5 : Int32) * a1)) + 4)]) (M := sM Ln (dd_u (dd_u (dd_u (dd_u I 149 (upd (I 149) (tn (((187 : Int32) + ((5 : Int32) * a1)) + 0)) a2)) 149 (upd (upd (I 149) (tn (((187 : Int32) + ((5 : Int32) * a1)) + 0)) a2) (tn (((187 : Int32) + ((5 : Int32) * a1)) + 1)) a3)) 149 (upd (upd (upd (I 149) (tn (((187 : Int32) + ((5 : Int32) * a1)) + 0)) a2) (tn (((187 : Int32) + ((5 : Int32) * a1)) + 1)) a3) (tn (((187 : Int32) + ((5 : Int32) * a1)) + 2)) a4)) 149 (upd (upd (upd (upd (I 149) (tn (((187 : Int32) + ((5 : Int32) * a1)) + 0)) a2) (tn (((187 : Int32) + ((5 : Int32) * a1)) + 1)) a3) (tn (((187 : Int32) + ((5 : Int32) * a1)) + 2)) a4) (tn (((187 : Int32) + ((5 : Int32) * a1)) + 3)) 1)) L c s) (o := (none, .int (((187 : Int32) + ((5 : Int32) * a1)) + 4), sM Ln (dd_u (dd_u (dd_u (dd_u I 149 (upd (I 149) (tn (((187 : Int32) + ((5 : Int32) * a1)) + 0)) a2)) 149 (upd (upd (I 149) (tn (((187 : Int32) + ((5 : Int32) * a1)) + 0)) a2) (tn (((187 : Int32) + ((5 : Int32) * a1)) + 1)) a3)) 149 (upd (upd (upd (I 149) (tn (((187 : Int32) + ((5 : Int32) * a1)) + 0)) a2) (tn (((187 : Int32) + ((5 : Int32) * a1)) + 1)) a3) (tn (((187 : Int32) + ((5 : Int32) * a1)) + 2)) a4)) 149 (upd (upd (upd (upd (I 149) (tn (((187 : Int32) + ((5 : Int32) * a1)) + 0)) a2) (tn (((187 : Int32) + ((5 : Int32) * a1)) + 1)) a3) (tn (((187 : Int32) + ((5 : Int32) * a1)) + 2)) a4) (tn (((187 : Int32) + ((5 : Int32) * a1)) + 3)) 1)) L c s)) rfl rfl (dd_Af.ret rfl ?_) (by omega)
    show dd_Rn (e + 16) m_X11_thinksOf (68, [.ref 148, .int a1, .int a2, .int a3, .int a4], [.int (((187 : Int32) + ((5 : Int32) * a1)) + 4), .ref 149], sM Ln (dd_u (dd_u (dd_u (dd_u I 149 (upd (I 149) (tn (((187 : Int32) + ((5 : Int32) * a1)) + 0)) a2)) 149 (upd (upd (I 149) (tn (((187 : Int32) + ((5 : Int32) * a1)) + 0)) a2) (tn (((187 : Int32) + ((5 : Int32) * a1)) + 1)) a3)) 149 (upd (upd (upd (I 149) (tn (((187 : Int32) + ((5 : Int32) * a1)) + 0)) a2) (tn (((187 : Int32) + ((5 : Int32) * a1)) + 1)) a3) (tn (((187 : Int32) + ((5 : Int32) * a1)) + 2)) a4)) 149 (upd (upd (upd (upd (I 149) (tn (((187 : Int32) + ((5 : Int32) * a1)) + 0)) a2) (tn (((187 : Int32) + ((5 : Int32) * a1)) + 1)) a3) (tn (((187 : Int32) + ((5 : Int32) * a1)) + 2)) a4) (tn (((187 : Int32) + ((5 : Int32) * a1)) + 3)) 1)) L c s) _
    obtain ⟨hc, h⟩ := h
    refine dd_Rn.chk 1 (c := 0 ≤ ((187 : Int32) + ((5 : Int32) * a1)) + 4 ∧ tn (((187 : Int32) + ((5 : Int32) * a1)) + 4) < 2220) (A := (70, [.ref 148, .int a1, .int a2, .int a3, .int a4], [], sM Ln (dd_u (dd_u (dd_u (dd_u (dd_u I 149 (upd (I 149) (tn (((187 : Int32) + ((5 : Int32) * a1)) + 0)) a2)) 149 (upd (upd (I 149) (tn (((187 : Int32) + ((5 : Int32) * a1)) + 0)) a2) (tn (((187 : Int32) + ((5 : Int32) * a1)) + 1)) a3)) 149 (upd (upd (upd (I 149) (tn (((187 : Int32) + ((5 : Int32) * a1)) + 0)) a2) (tn (((187 : Int32) + ((5 : Int32) * a1)) + 1)) a3) (tn (((187 : Int32) + ((5 : Int32) * a1)) + 2)) a4)) 149 (upd (upd (upd (upd (I 149) (tn (((187 : Int32) + ((5 : Int32) * a1)) + 0)) a2) (tn (((187 : Int32) + ((5 : Int32) * a1)) + 1)) a3) (tn (((187 : Int32) + ((5 : Int32) * a1)) + 2)) a4) (tn (((187 : Int32) + ((5 : Int32) * a1)) + 3)) 1)) 149 (upd (upd (upd (upd (upd (I 149) (tn (((187 : Int32) + ((5 : Int32) * a1)) + 0)) a2) (tn (((187 : Int32) + ((5 : Int32) * a1)) + 1)) a3) (tn (((187 : Int32) + ((5 : Int32) * a1)) + 2)) a4) (tn (((187 : Int32) + ((5 : Int32) * a1)) + 3)) 1) (tn (((187 : Int32) + ((5 : Int32) * a1)) + 4)) 0)) L c s)) rfl hc ?_ (by omega)
    exact dd_Rn.retK 0 (pc := 70) (ls := [.ref 148, .int a1, .int a2, .int a3, .int a4]) (st := []) (M := sM Ln (dd_u (dd_u (dd_u (dd_u (dd_u I 149 (upd (I 149) (tn (((187 : Int32) + ((5 : Int32) * a1)) + 0)) a2)) 149 (upd (upd (I 149) (tn (((187 : Int32) + ((5 : Int32) * a1)) + 0)) a2) (tn (((187 : Int32) + ((5 : Int32) * a1)) + 1)) a3)) 149 (upd (upd (upd (I 149) (tn (((187 : Int32) + ((5 : Int32) * a1)) + 0)) a2) (tn (((187 : Int32) + ((5 : Int32) * a1)) + 1)) a3) (tn (((187 : Int32) + ((5 : Int32) * a1)) + 2)) a4)) 149 (upd (upd (upd (upd (I 149) (tn (((187 : Int32) + ((5 : Int32) * a1)) + 0)) a2) (tn (((187 : Int32) + ((5 : Int32) * a1)) + 1)) a3) (tn (((187 : Int32) + ((5 : Int32) * a1)) + 2)) a4) (tn (((187 : Int32) + ((5 : Int32) * a1)) + 3)) 1)) 149 (upd (upd (upd (upd (upd (I 149) (tn (((187 : Int32) + ((5 : Int32) * a1)) + 0)) a2) (tn (((187 : Int32) + ((5 : Int32) * a1)) + 1)) a3) (tn (((187 : Int32) + ((5 : Int32) * a1)) + 2)) a4) (tn (((187 : Int32) + ((5 : Int32) * a1)) + 3)) 1) (tn (((187 : Int32) + ((5 : Int32) * a1)) + 4)) 0)) L c s) (o := (none, .null, sM Ln (dd_u (dd_u (dd_u (dd_u (dd_u I 149 (upd (I 149) (tn (((187 : Int32) + ((5 : Int32) * a1)) + 0)) a2)) 149 (upd (upd (I 149) (tn (((187 : Int32) + ((5 : Int32) * a1)) + 0)) a2) (tn (((187 : Int32) + ((5 : Int32) * a1)) + 1)) a3)) 149 (upd (upd (upd (I 149) (tn (((187 : Int32) + ((5 : Int32) * a1)) + 0)) a2) (tn (((187 : Int32) + ((5 : Int32) * a1)) + 1)) a3) (tn (((187 : Int32) + ((5 : Int32) * a1)) + 2)) a4)) 149 (upd (upd (upd (upd (I 149) (tn (((187 : Int32) + ((5 : Int32) * a1)) + 0)) a2) (tn (((187 : Int32) + ((5 : Int32) * a1)) + 1)) a3) (tn (((187 : Int32) + ((5 : Int32) * a1)) + 2)) a4) (tn (((187 : Int32) + ((5 : Int32) * a1)) + 3)) 1)) 149 (upd (upd (upd (upd (upd (I 149) (tn (((187 : Int32) + ((5 : Int32) * a1)) + 0)) a2) (tn (((187 : Int32) + ((5 : Int32) * a1)) + 1)) a3) (tn (((187 : Int32) + ((5 : Int32) * a1)) + 2)) a4) (tn (((187 : Int32) + ((5 : Int32) * a1)) + 3)) 1) (tn (((187 : Int32) + ((5 : Int32) * a1)) + 4)) 0)) L c s)) rfl rfl h (by omega)
  · have h := h.2 hc
    obtain ⟨hc, h⟩ := h
    refine dd_Rn.chk 1 (c := 0 ≤ ((187 : Int32) + ((5 : Int32) * a1)) + 3 ∧ tn (((187 : Int32) + ((5 : Int32) * a1)) + 3) < 2220) (A := (59, [.ref 148, .int a1, .int a2, .int a3, .int a4], [], sM Ln (dd_u (dd_u (dd_u (dd_u I 149 (upd (I 149) (tn (((187 : Int32) + ((5 : Int32) * a1)) + 0)) a2)) 149 (upd (upd (I 149) (tn (((187 : Int32) + ((5 : Int32) * a1)) + 0)) a2) (tn (((187 : Int32) + ((5 : Int32) * a1)) + 1)) a3)) 149 (upd (upd (upd (I 149) (tn (((187 : Int32) + ((5 : Int32) * a1)) + 0)) a2) (tn (((187 : Int32) + ((5 : Int32) * a1)) + 1)) a3) (tn (((187 : Int32) + ((5 : Int32) * a1)) + 2)) a4)) 149 (upd (upd (upd (upd (I 149) (tn (((187 : Int32) + ((5 : Int32) * a1)) + 0)) a2) (tn (((187 : Int32) + ((5 : Int32) * a1)) + 1)) a3) (tn (((187 : Int32) + ((5 : Int32) * a1)) + 2)) a4) (tn (((187 : Int32) + ((5 : Int32) * a1)) + 3)) 0)) L c s)) rfl hc ?_ (by omega)
    refine dd_Rn.sub 4 (pc := 65) (ls := [.ref 148, .int a1, .int a2, .int a3, .int a4]) (st := [.int 4, .int a1, .ref 149]) (M := sM Ln (dd_u (dd_u (dd_u (dd_u I 149 (upd (I 149) (tn (((187 : Int32) + ((5 : Int32) * a1)) + 0)) a2)) 149 (upd (upd (I 149) (tn (((187 : Int32) + ((5 : Int32) * a1)) + 0)) a2) (tn (((187 : Int32) + ((5 : Int32) * a1)) + 1)) a3)) 149 (upd (upd (upd (I 149) (tn (((187 : Int32) + ((5 : Int32) * a1)) + 0)) a2) (tn (((187 : Int32) + ((5 : Int32) * a1)) + 1)) a3) (tn (((187 : Int32) + ((5 : Int32) * a1)) + 2)) a4)) 149 (upd (upd (upd (upd (I 149) (tn (((187 : Int32) + ((5 : Int32) * a1)) + 0)) a2) (tn (((187 : Int32) + ((5 : Int32) * a1)) + 1)) a3) (tn (((187 : Int32) + ((5 : Int32) * a1)) + 2)) a4) (tn (((187 : Int32) + ((5 : Int32) * a1)) + 3)) 0)) L c s) (x := m_X11_at) (as := [.int a1, .int 4]) (rest := [.ref 149]) rfl rfl rfl rfl ?_
    show dd_Rn (e + 15) m_X11_at (0, [.int a1, .int 4], [], sM Ln (dd_u (dd_u (dd_u (dd_u I 149 (upd (I 149) (tn (((187 : Int32) + ((5 : Int32) * a1)) + 0)) a2)) 149 (upd (upd (I 149) (tn (((187 : Int32) + ((5 : Int32) * a1)) + 0)) a2) (tn (((187 : Int32) + ((5 : Int32) * a1)) + 1)) a3)) 149 (upd (upd (upd (I 149) (tn (((187 : Int32) + ((5 : Int32) * a1)) + 0)) a2) (tn (((187 : Int32) + ((5 : Int32) * a1)) + 1)) a3) (tn (((187 : Int32) + ((5 : Int32) * a1)) + 2)) a4)) 149 (upd (upd (upd (upd (I 149) (tn (((187 : Int32) + ((5 : Int32) * a1)) + 0)) a2) (tn (((187 : Int32) + ((5 : Int32) * a1)) + 1)) a3) (tn (((187 : Int32) + ((5 : Int32) * a1)) + 2)) a4) (tn (((187 : Int32) + ((5 : Int32) * a1)) + 3)) 0)) L c s) _
    refine dd_Rn.retK 7 (pc := 9) (ls := [.int a1, .int 4]) (st := [.int (((187 : Int32) + ((5 : Int32) * a1)) + 4)]) (M := sM Ln (dd_u (dd_u (dd_u (dd_u I 149 (upd (I 149) (tn (((187 : Int32) + ((5 : Int32) * a1)) + 0)) a2)) 149 (upd (upd (I 149) (tn (((187 : Int32) + ((5 : Int32) * a1)) + 0)) a2) (tn (((187 : Int32) + ((5 : Int32) * a1)) + 1)) a3)) 149 (upd (upd (upd (I 149) (tn (((187 : Int32) + ((5 : Int32) * a1)) + 0)) a2) (tn (((187 : Int32) + ((5 : Int32) * a1)) + 1)) a3) (tn (((187 : Int32) + ((5 : Int32) * a1)) + 2)) a4)) 149 (upd (upd (upd (upd (I 149) (tn (((187 : Int32) + ((5 : Int32) * a1)) + 0)) a2) (tn (((187 : Int32) + ((5 : Int32) * a1)) + 1)) a3) (tn (((187 : Int32) + ((5 : Int32) * a1)) + 2)) a4) (tn (((187 : Int32) + ((5 : Int32) * a1)) + 3)) 0)) L c s) (o := (none, .int (((187 : Int32) + ((5 : Int32) * a1)) + 4), sM Ln (dd_u (dd_u (dd_u (dd_u I 149 (upd (I 149) (tn (((187 : Int32) + ((5 : Int32) * a1)) + 0)) a2)) 149 (upd (upd (I 149) (tn (((187 : Int32) + ((5 : Int32) * a1)) + 0)) a2) (tn (((187 : Int32) + ((5 : Int32) * a1)) + 1)) a3)) 149 (upd (upd (upd (I 149) (tn (((187 : Int32) + ((5 : Int32) * a1)) + 0)) a2) (tn (((187 : Int32) + ((5 : Int32) * a1)) + 1)) a3) (tn (((187 : Int32) + ((5 : Int32) * a1)) + 2)) a4)) 149 (upd (upd (upd (upd (I 149) (tn (((187 : Int32) + ((5 : Int32) * a1)) + 0)) a2) (tn (((187 : Int32) + ((5 : Int32) * a1)) + 1)) a3) (tn (((187 : Int32) + ((5 : Int32) * a1)) + 2)) a4) (tn (((187 : Int32) + ((5 : Int32) * a1)) + 3)) 0)) L c s)) rfl rfl (dd_Af.ret rfl ?_) (by omega)
    show dd_Rn (e + 16) m_X11_thinksOf (68, [.ref 148, .int a1, .int a2, .int a3, .int a4], [.int (((187 : Int32) + ((5 : Int32) * a1)) + 4), .ref 149], sM Ln (dd_u (dd_u (dd_u (dd_u I 149 (upd (I 149) (tn (((187 : Int32) + ((5 : Int32) * a1)) + 0)) a2)) 149 (upd (upd (I 149) (tn (((187 : Int32) + ((5 : Int32) * a1)) + 0)) a2) (tn (((187 : Int32) + ((5 : Int32) * a1)) + 1)) a3)) 149 (upd (upd (upd (I 149) (tn (((187 : Int32) + ((5 : Int32) * a1)) + 0)) a2) (tn (((187 : Int32) + ((5 : Int32) * a1)) + 1)) a3) (tn (((187 : Int32) + ((5 : Int32) * a1)) + 2)) a4)) 149 (upd (upd (upd (upd (I 149) (tn (((187 : Int32) + ((5 : Int32) * a1)) + 0)) a2) (tn (((187 : Int32) + ((5 : Int32) * a1)) + 1)) a3) (tn (((187 : Int32) + ((5 : Int32) * a1)) + 2)) a4) (tn (((187 : Int32) + ((5 : Int32) * a1)) + 3)) 0)) L c s) _
    obtain ⟨hc, h⟩ := h
    refine dd_Rn.chk 1 (c := 0 ≤ ((187 : Int32) + ((5 : Int32) * a1)) + 4 ∧ tn (((187 : Int32) + ((5 : Int32) * a1)) + 4) < 2220) (A := (70, [.ref 148, .int a1, .int a2, .int a3, .int a4], [], sM Ln (dd_u (dd_u (dd_u (dd_u (dd_u I 149 (upd (I 149) (tn (((187 : Int32) + ((5 : Int32) * a1)) + 0)) a2)) 149 (upd (upd (I 149) (tn (((187 : Int32) + ((5 : Int32) * a1)) + 0)) a2) (tn (((187 : Int32) + ((5 : Int32) * a1)) + 1)) a3)) 149 (upd (upd (upd (I 149) (tn (((187 : Int32) + ((5 : Int32) * a1)) + 0)) a2) (tn (((187 : Int32) + ((5 : Int32) * a1)) + 1)) a3) (tn (((187 : Int32) + ((5 : Int32) * a1)) + 2)) a4)) 149 (upd (upd (upd (upd (I 149) (tn (((187 : Int32) + ((5 : Int32) * a1)) + 0)) a2) (tn (((187 : Int32) + ((5 : Int32) * a1)) + 1)) a3) (tn (((187 : Int32) + ((5 : Int32) * a1)) + 2)) a4) (tn (((187 : Int32) + ((5 : Int32) * a1)) + 3)) 0)) 149 (upd (upd (upd (upd (upd (I 149) (tn (((187 : Int32) + ((5 : Int32) * a1)) + 0)) a2) (tn (((187 : Int32) + ((5 : Int32) * a1)) + 1)) a3) (tn (((187 : Int32) + ((5 : Int32) * a1)) + 2)) a4) (tn (((187 : Int32) + ((5 : Int32) * a1)) + 3)) 0) (tn (((187 : Int32) + ((5 : Int32) * a1)) + 4)) 0)) L c s)) rfl hc ?_ (by omega)
    exact dd_Rn.retK 0 (pc := 70) (ls := [.ref 148, .int a1, .int a2, .int a3, .int a4]) (st := []) (M := sM Ln (dd_u (dd_u (dd_u (dd_u (dd_u I 149 (upd (I 149) (tn (((187 : Int32) + ((5 : Int32) * a1)) + 0)) a2)) 149 (upd (upd (I 149) (tn (((187 : Int32) + ((5 : Int32) * a1)) + 0)) a2) (tn (((187 : Int32) + ((5 : Int32) * a1)) + 1)) a3)) 149 (upd (upd (upd (I 149) (tn (((187 : Int32) + ((5 : Int32) * a1)) + 0)) a2) (tn (((187 : Int32) + ((5 : Int32) * a1)) + 1)) a3) (tn (((187 : Int32) + ((5 : Int32) * a1)) + 2)) a4)) 149 (upd (upd (upd (upd (I 149) (tn (((187 : Int32) + ((5 : Int32) * a1)) + 0)) a2) (tn (((187 : Int32) + ((5 : Int32) * a1)) + 1)) a3) (tn (((187 : Int32) + ((5 : Int32) * a1)) + 2)) a4) (tn (((187 : Int32) + ((5 : Int32) * a1)) + 3)) 0)) 149 (upd (upd (upd (upd (upd (I 149) (tn (((187 : Int32) + ((5 : Int32) * a1)) + 0)) a2) (tn (((187 : Int32) + ((5 : Int32) * a1)) + 1)) a3) (tn (((187 : Int32) + ((5 : Int32) * a1)) + 2)) a4) (tn (((187 : Int32) + ((5 : Int32) * a1)) + 3)) 0) (tn (((187 : Int32) + ((5 : Int32) * a1)) + 4)) 0)) L c s) (o := (none, .null, sM Ln (dd_u (dd_u (dd_u (dd_u (dd_u I 149 (upd (I 149) (tn (((187 : Int32) + ((5 : Int32) * a1)) + 0)) a2)) 149 (upd (upd (I 149) (tn (((187 : Int32) + ((5 : Int32) * a1)) + 0)) a2) (tn (((187 : Int32) + ((5 : Int32) * a1)) + 1)) a3)) 149 (upd (upd (upd (I 149) (tn (((187 : Int32) + ((5 : Int32) * a1)) + 0)) a2) (tn (((187 : Int32) + ((5 : Int32) * a1)) + 1)) a3) (tn (((187 : Int32) + ((5 : Int32) * a1)) + 2)) a4)) 149 (upd (upd (upd (upd (I 149) (tn (((187 : Int32) + ((5 : Int32) * a1)) + 0)) a2) (tn (((187 : Int32) + ((5 : Int32) * a1)) + 1)) a3) (tn (((187 : Int32) + ((5 : Int32) * a1)) + 2)) a4) (tn (((187 : Int32) + ((5 : Int32) * a1)) + 3)) 0)) 149 (upd (upd (upd (upd (upd (I 149) (tn (((187 : Int32) + ((5 : Int32) * a1)) + 0)) a2) (tn (((187 : Int32) + ((5 : Int32) * a1)) + 1)) a3) (tn (((187 : Int32) + ((5 : Int32) * a1)) + 2)) a4) (tn (((187 : Int32) + ((5 : Int32) * a1)) + 3)) 0) (tn (((187 : Int32) + ((5 : Int32) * a1)) + 4)) 0)) L c s)) rfl rfl h (by omega)

theorem w_X11_beatFor_0 {Ln d c s : Nat} {I : Nat → Nat → Int32} {L : Nat → Nat → Int64} {Q : dd_O → Prop} {a1 : Int32} (hd : 28 ≤ d) (h : ((0 ≤ ((187 : Int32) + ((5 : Int32) * a1)) + 1 ∧ tn (((187 : Int32) + ((5 : Int32) * a1)) + 1) < 2220) ∧ ((0 ≤ ((139 : Int32) + ((8 : Int32) * (I 149 (tn (((187 : Int32) + ((5 : Int32) * a1)) + 1))))) + (I 149 7) ∧ tn (((139 : Int32) + ((8 : Int32) * (I 149 (tn (((187 : Int32) + ((5 : Int32) * a1)) + 1))))) + (I 149 7)) < 2220) ∧ dd_Ev (d - 1) m_X11_goesBy [.ref 148, .int a1, .int (I 149 (tn (((139 : Int32) + ((8 : Int32) * (I 149 (tn (((187 : Int32) + ((5 : Int32) * a1)) + 1))))) + (I 149 7))))] (sM Ln I L c s) (dd_RI Ln c s (fun x1 I1 L1 => dd_Ev (d - 1) m_X11_beatEnds [.ref 148] (sM Ln I1 L1 c s) (dd_RV Ln c s (fun I2 L2 => Q (none, .null, sM Ln I2 L2 c s)))))))) : dd_Ev d m_X11_beatFor [.ref 148, .int a1] (sM Ln I L c s) Q := by
  obtain ⟨e, rfl⟩ : ∃ e, d = e + 16 := ⟨d - 16, by omega⟩
  show dd_Rn (e + 16) m_X11_beatFor (0, [.ref 148, .int a1], [], sM Ln I L c s) Q
  refine dd_Rn.sub 4 (pc := 4) (ls := [.ref 148, .int a1]) (st := [.int a1, .ref 148, .int a1, .ref 148]) (M := sM Ln I L c s) (x := m_X11_noteOf) (as := [.ref 148, .int a1]) (rest := [.int a1, .ref 148]) rfl rfl rfl rfl ?_
  show dd_Rn (e + 15) m_X11_noteOf (0, [.ref 148, .int a1], [], sM Ln I L c s) _
  refine dd_Rn.sub 5 (pc := 7) (ls := [.ref 148, .int a1]) (st := [.int 1, .int a1, .ref 148, .ref 149]) (M := sM Ln I L c s) (x := m_X11_of) (as := [.ref 148, .int a1, .int 1]) (rest := [.ref 149]) rfl rfl rfl rfl ?_
  show dd_Rn (e + 14) m_X11_of (0, [.ref 148, .int a1, .int 1], [], sM Ln I L c s) _
  refine dd_Rn.sub 4 (pc := 6) (ls := [.ref 148, .int a1, .int 1]) (st := [.int 1, .int a1, .ref 149]) (M := sM Ln I L c s) (x := m_X11_at) (as := [.int a1, .int 1]) (rest := [.ref 149]) rfl rfl rfl rfl ?_
  show dd_Rn (e + 13) m_X11_at (0, [.int a1, .int 1], [], sM Ln I L c s) _
  refine dd_Rn.retK 7 (pc := 9) (ls := [.int a1, .int 1]) (st := [.int (((187 : Int32) + ((5 : Int32) * a1)) + 1)]) (M := sM Ln I L c s) (o := (none, .int (((187 : Int32) + ((5 : Int32) * a1)) + 1), sM Ln I L c s)) rfl rfl (dd_Af.ret rfl ?_) (by omega)
  show dd_Rn (e + 14) m_X11_of (9, [.ref 148, .int a1, .int 1], [.int (((187 : Int32) + ((5 : Int32) * a1)) + 1), .ref 149], sM Ln I L c s) _
  obtain ⟨hc, h⟩ := h
  refine dd_Rn.chk 0 (c := 0 ≤ ((187 : Int32) + ((5 : Int32) * a1)) + 1 ∧ tn (((187 : Int32) + ((5 : Int32) * a1)) + 1) < 2220) (A := (10, [.ref 148, .int a1, .int 1], [.int (I 149 (tn (((187 : Int32) + ((5 : Int32) * a1)) + 1)))], sM Ln I L c s)) rfl hc ?_ (by omega)
  refine dd_Rn.retK 0 (pc := 10) (ls := [.ref 148, .int a1, .int 1]) (st := [.int (I 149 (tn (((187 : Int32) + ((5 : Int32) * a1)) + 1)))]) (M := sM Ln I L c s) (o := (none, .int (I 149 (tn (((187 : Int32) + ((5 : Int32) * a1)) + 1))), sM Ln I L c s)) rfl rfl (dd_Af.ret rfl ?_) (by omega)
  show dd_Rn (e + 15) m_X11_noteOf (10, [.ref 148, .int a1], [.int (I 149 (tn (((187 : Int32) + ((5 : Int32) * a1)) + 1))), .ref 149], sM Ln I L c s) _
  refine dd_Rn.sub 4 (pc := 17) (ls := [.ref 148, .int a1]) (st := [.int (I 149 7), .int (I 149 (tn (((187 : Int32) + ((5 : Int32) * a1)) + 1))), .ref 149]) (M := sM Ln I L c s) (x := m_X11_noteAt) (as := [.int (I 149 (tn (((187 : Int32) + ((5 : Int32) * a1)) + 1))), .int (I 149 7)]) (rest := [.ref 149]) rfl rfl rfl rfl ?_
  show dd_Rn (e + 14) m_X11_noteAt (0, [.int (I 149 (tn (((187 : Int32) + ((5 : Int32) * a1)) + 1))), .int (I 149 7)], [], sM Ln I L c s) _
  refine dd_Rn.retK 7 (pc := 10) (ls := [.int (I 149 (tn (((187 : Int32) + ((5 : Int32) * a1)) + 1))), .int (I 149 7)]) (st := [.int (((139 : Int32) + ((8 : Int32) * (I 149 (tn (((187 : Int32) + ((5 : Int32) * a1)) + 1))))) + (I 149 7))]) (M := sM Ln I L c s) (o := (none, .int (((139 : Int32) + ((8 : Int32) * (I 149 (tn (((187 : Int32) + ((5 : Int32) * a1)) + 1))))) + (I 149 7)), sM Ln I L c s)) rfl rfl (dd_Af.ret rfl ?_) (by omega)
  show dd_Rn (e + 15) m_X11_noteOf (20, [.ref 148, .int a1], [.int (((139 : Int32) + ((8 : Int32) * (I 149 (tn (((187 : Int32) + ((5 : Int32) * a1)) + 1))))) + (I 149 7)), .ref 149], sM Ln I L c s) _
  obtain ⟨hc, h⟩ := h
  refine dd_Rn.chk 0 (c := 0 ≤ ((139 : Int32) + ((8 : Int32) * (I 149 (tn (((187 : Int32) + ((5 : Int32) * a1)) + 1))))) + (I 149 7) ∧ tn (((139 : Int32) + ((8 : Int32) * (I 149 (tn (((187 : Int32) + ((5 : Int32) * a1)) + 1))))) + (I 149 7)) < 2220) (A := (21, [.ref 148, .int a1], [.int (I 149 (tn (((139 : Int32) + ((8 : Int32) * (I 149 (tn (((187 : Int32) + ((5 : Int32) * a1)) + 1))))) + (I 149 7))))], sM Ln I L c s)) rfl hc ?_ (by omega)
  refine dd_Rn.retK 0 (pc := 21) (ls := [.ref 148, .int a1]) (st := [.int (I 149 (tn (((139 : Int32) + ((8 : Int32) * (I 149 (tn (((187 : Int32) + ((5 : Int32) * a1)) + 1))))) + (I 149 7))))]) (M := sM Ln I L c s) (o := (none, .int (I 149 (tn (((139 : Int32) + ((8 : Int32) * (I 149 (tn (((187 : Int32) + ((5 : Int32) * a1)) + 1))))) + (I 149 7)))), sM Ln I L c s)) rfl rfl (dd_Af.ret rfl ?_) (by omega)
  show dd_Rn (e + 16) m_X11_beatFor (7, [.ref 148, .int a1], [.int (I 149 (tn (((139 : Int32) + ((8 : Int32) * (I 149 (tn (((187 : Int32) + ((5 : Int32) * a1)) + 1))))) + (I 149 7)))), .int a1, .ref 148], sM Ln I L c s) _
  refine dd_Rn.cI 0 (pc := 7) (ls := [.ref 148, .int a1]) (st := [.int (I 149 (tn (((139 : Int32) + ((8 : Int32) * (I 149 (tn (((187 : Int32) + ((5 : Int32) * a1)) + 1))))) + (I 149 7)))), .int a1, .ref 148]) (x := m_X11_goesBy) (as := [.ref 148, .int a1, .int (I 149 (tn (((139 : Int32) + ((8 : Int32) * (I 149 (tn (((187 : Int32) + ((5 : Int32) * a1)) + 1))))) + (I 149 7))))]) (rest := []) rfl rfl rfl rfl h ?_
  intro x1 I1 L1 h
  show dd_Rn (e + 16) m_X11_beatFor (10, [.ref 148, .int a1], [.int x1], sM Ln I1 L1 c s) _
  refine dd_Rn.cV 2 (pc := 12) (ls := [.ref 148, .int a1]) (st := [.ref 148]) (x := m_X11_beatEnds) (as := [.ref 148]) (rest := []) rfl rfl rfl rfl h ?_
  intro I2 L2 h
  show dd_Rn (e + 16) m_X11_beatFor (15, [.ref 148, .int a1], [], sM Ln I2 L2 c s) _
  exact dd_Rn.retK 0 (pc := 15) (ls := [.ref 148, .int a1]) (st := []) (M := sM Ln I2 L2 c s) (o := (none, .null, sM Ln I2 L2 c s)) rfl rfl h (by omega)

theorem w_X11_latestFrom_0 {Ln d c s : Nat} {I : Nat → Nat → Int32} {L : Nat → Nat → Int64} {Q : dd_O → Prop} {a1 a2 a3 : Int32} (hd : 28 ≤ d) (h : dd_Ev (d - 1) m_X11_keepsAll [.ref 148] (sM Ln I L c s) (dd_RV Ln c s (fun I1 L1 => dd_Ev (d - 1) m_X11_thinksOf [.ref 148, .int (I 149 1), .int a1, .int a2, .int a3] (sM Ln I1 L1 c s) (dd_RV Ln c s (fun I2 L2 => dd_Rn d m_X11_latestFrom (22, [.ref 148, .int a1, .int a2, .int a3, .int (I 149 1), .int 0], [], sM Ln I2 L2 c s) Q))))) : dd_Ev d m_X11_latestFrom [.ref 148, .int a1, .int a2, .int a3] (sM Ln I L c s) Q := by
  obtain ⟨e, rfl⟩ : ∃ e, d = e + 16 := ⟨d - 16, by omega⟩
  show dd_Rn (e + 16) m_X11_latestFrom (0, [.ref 148, .int a1, .int a2, .int a3, .null, .null], [], sM Ln I L c s) Q
  refine dd_Rn.sub 1 (pc := 1) (ls := [.ref 148, .int a1, .int a2, .int a3, .null, .null]) (st := [.ref 148]) (M := sM Ln I L c s) (x := m_X11_boys) (as := [.ref 148]) (rest := []) rfl rfl rfl rfl ?_
  show dd_Rn (e + 15) m_X11_boys (0, [.ref 148], [], sM Ln I L c s) _
  refine dd_Rn.retK 4 (pc := 6) (ls := [.ref 148]) (st := [.int (I 149 1)]) (M := sM Ln I L c s) (o := (none, .int (I 149 1), sM Ln I L c s)) rfl rfl (dd_Af.ret rfl ?_) (by omega)
  show dd_Rn (e + 16) m_X11_latestFrom (4, [.ref 148, .int a1, .int a2, .int a3, .null, .null], [.int (I 149 1)], sM Ln I L c s) _
  refine dd_Rn.cV 2 (pc := 7) (ls := [.ref 148, .int a1, .int a2, .int a3, .int (I 149 1), .null]) (st := [.ref 148]) (x := m_X11_keepsAll) (as := [.ref 148]) (rest := []) rfl rfl rfl rfl h ?_
  intro I1 L1 h
  show dd_Rn (e + 16) m_X11_latestFrom (10, [.ref 148, .int a1, .int a2, .int a3, .int (I 149 1), .null], [], sM Ln I1 L1 c s) _
  refine dd_Rn.cV 5 (pc := 16) (ls := [.ref 148, .int a1, .int a2, .int a3, .int (I 149 1), .null]) (st := [.int a3, .int a2, .int a1, .int (I 149 1), .ref 148]) (x := m_X11_thinksOf) (as := [.ref 148, .int (I 149 1), .int a1, .int a2, .int a3]) (rest := []) rfl rfl rfl rfl h ?_
  intro I2 L2 h
  show dd_Rn (e + 16) m_X11_latestFrom (19, [.ref 148, .int a1, .int a2, .int a3, .int (I 149 1), .null], [], sM Ln I2 L2 c s) _
  exact dd_Rn.go 2 (cf' := (22, [.ref 148, .int a1, .int a2, .int a3, .int (I 149 1), .int 0], [], sM Ln I2 L2 c s)) rfl h (by omega)

theorem w_X11_latestFrom_22 {Ln d c s : Nat} {I : Nat → Nat → Int32} {L : Nat → Nat → Int64} {Q : dd_O → Prop} {a1 a2 a3 a4 a5 : Int32} (hd : 28 ≤ d) (h : (((101 : Int32) ≤ a5 → dd_Ev (d - 1) m_X11_bringsBack [.ref 148] (sM Ln I L c s) (dd_RV Ln c s (fun I1 L1 => Q (none, .int a5, sM Ln I1 L1 c s)))) ∧ (¬ ((101 : Int32) ≤ a5) → ((0 ≤ ((187 : Int32) + ((5 : Int32) * a4)) + 3 ∧ tn (((187 : Int32) + ((5 : Int32) * a4)) + 3) < 2220) ∧ ((I 149 (tn (((187 : Int32) + ((5 : Int32) * a4)) + 3)) = 1 → dd_Ev (d - 1) m_X11_bringsBack [.ref 148] (sM Ln I L c s) (dd_RV Ln c s (fun I2 L2 => Q (none, .int a5, sM Ln I2 L2 c s)))) ∧ (¬ (I 149 (tn (((187 : Int32) + ((5 : Int32) * a4)) + 3)) = 1) → dd_Ev (d - 1) m_X11_beatFor [.ref 148, .int a4] (sM Ln I L c s) (dd_RV Ln c s (fun I3 L3 => dd_Rn d m_X11_latestFrom (22, [.ref 148, .int a1, .int a2, .int a3, .int a4, .int (a5 + 1)], [], sM Ln I3 L3 c s) Q)))))))) : dd_Rn d m_X11_latestFrom (22, [.ref 148, .int a1, .int a2, .int a3, .int a4, .int a5], [], sM Ln I L c s) Q := by
  obtain ⟨e, rfl⟩ : ∃ e, d = e + 16 := ⟨d - 16, by omega⟩
  refine dd_Rn.ite 2 (c := (101 : Int32) ≤ a5) (A := (50, [.ref 148, .int a1, .int a2, .int a3, .int a4, .int a5], [], sM Ln I L c s)) (B := (29, [.ref 148, .int a1, .int a2, .int a3, .int a4, .int a5], [], sM Ln I L c s)) rfl (fun hc => ?_) (fun hc => ?_) (by omega)
  · have h := h.1 hc
    refine dd_Rn.cV 1 (pc := 51) (ls := [.ref 148, .int a1, .int a2, .int a3, .int a4, .int a5]) (st := [.ref 148]) (x := m_X11_bringsBack) (as := [.ref 148]) (rest := []) rfl rfl rfl rfl h ?_
    intro I1 L1 h
    show dd_Rn (e + 16) m_X11_latestFrom (54, [.ref 148, .int a1, .int a2, .int a3, .int a4, .int a5], [], sM Ln I1 L1 c s) _
    exact dd_Rn.retK 1 (pc := 56) (ls := [.ref 148, .int a1, .int a2, .int a3, .int a4, .int a5]) (st := [.int a5]) (M := sM Ln I1 L1 c s) (o := (none, .int a5, sM Ln I1 L1 c s)) rfl rfl h (by omega)
  · have h := h.2 hc
    refine dd_Rn.sub 2 (pc := 32) (ls := [.ref 148, .int a1, .int a2, .int a3, .int a4, .int a5]) (st := [.int a4, .ref 148]) (M := sM Ln I L c s) (x := m_X11_isIn) (as := [.ref 148, .int a4]) (rest := []) rfl rfl rfl rfl ?_
    show dd_Rn (e + 15) m_X11_isIn (0, [.ref 148, .int a4], [], sM Ln I L c s) _
    refine dd_Rn.sub 3 (pc := 3) (ls := [.ref 148, .int a4]) (st := [.int 3, .int a4, .ref 148]) (M := sM Ln I L c s) (x := m_X11_of) (as := [.ref 148, .int a4, .int 3]) (rest := []) rfl rfl rfl rfl ?_
    show dd_Rn (e + 14) m_X11_of (0, [.ref 148, .int a4, .int 3], [], sM Ln I L c s) _
    refine dd_Rn.sub 4 (pc := 6) (ls := [.ref 148, .int a4, .int 3]) (st := [.int 3, .int a4, .ref 149]) (M := sM Ln I L c s) (x := m_X11_at) (as := [.int a4, .int 3]) (rest := [.ref 149]) rfl rfl rfl rfl ?_
    show dd_Rn (e + 13) m_X11_at (0, [.int a4, .int 3], [], sM Ln I L c s) _
    refine dd_Rn.retK 7 (pc := 9) (ls := [.int a4, .int 3]) (st := [.int (((187 : Int32) + ((5 : Int32) * a4)) + 3)]) (M := sM Ln I L c s) (o := (none, .int (((187 : Int32) + ((5 : Int32) * a4)) + 3), sM Ln I L c s)) rfl rfl (dd_Af.ret rfl ?_) (by omega)
    show dd_Rn (e + 14) m_X11_of (9, [.ref 148, .int a4, .int 3], [.int (((187 : Int32) + ((5 : Int32) * a4)) + 3), .ref 149], sM Ln I L c s) _
    obtain ⟨hc, h⟩ := h
    refine dd_Rn.chk 0 (c := 0 ≤ ((187 : Int32) + ((5 : Int32) * a4)) + 3 ∧ tn (((187 : Int32) + ((5 : Int32) * a4)) + 3) < 2220) (A := (10, [.ref 148, .int a4, .int 3], [.int (I 149 (tn (((187 : Int32) + ((5 : Int32) * a4)) + 3)))], sM Ln I L c s)) rfl hc ?_ (by omega)
    refine dd_Rn.retK 0 (pc := 10) (ls := [.ref 148, .int a4, .int 3]) (st := [.int (I 149 (tn (((187 : Int32) + ((5 : Int32) * a4)) + 3)))]) (M := sM Ln I L c s) (o := (none, .int (I 149 (tn (((187 : Int32) + ((5 : Int32) * a4)) + 3))), sM Ln I L c s)) rfl rfl (dd_Af.ret rfl ?_) (by omega)
    show dd_Rn (e + 15) m_X11_isIn (6, [.ref 148, .int a4], [.int (I 149 (tn (((187 : Int32) + ((5 : Int32) * a4)) + 3)))], sM Ln I L c s) _
    refine dd_Rn.ite 1 (c := I 149 (tn (((187 : Int32) + ((5 : Int32) * a4)) + 3)) = 1) (A := (10, [.ref 148, .int a4], [], sM Ln I L c s)) (B := (14, [.ref 148, .int a4], [], sM Ln I L c s)) rfl (fun hc => ?_) (fun hc => ?_) (by omega)
    · have h := h.1 hc
      refine dd_Rn.retK 2 (pc := 15) (ls := [.ref 148, .int a4]) (st := [.int 1]) (M := sM Ln I L c s) (o := (none, .int 1, sM Ln I L c s)) rfl rfl (dd_Af.ret rfl ?_) (by omega)
      show dd_Rn (e + 16) m_X11_latestFrom (35, [.ref 148, .int a1, .int a2, .int a3, .int a4, .int a5], [.int 1], sM Ln I L c s) _
      refine dd_Rn.cV 2 (pc := 51) (ls := [.ref 148, .int a1, .int a2, .int a3, .int a4, .int a5]) (st := [.ref 148]) (x := m_X11_bringsBack) (as := [.ref 148]) (rest := []) rfl rfl rfl rfl h ?_
      intro I2 L2 h
      show dd_Rn (e + 16) m_X11_latestFrom (54, [.ref 148, .int a1, .int a2, .int a3, .int a4, .int a5], [], sM Ln I2 L2 c s) _
      exact dd_Rn.retK 1 (pc := 56) (ls := [.ref 148, .int a1, .int a2, .int a3, .int a4, .int a5]) (st := [.int a5]) (M := sM Ln I2 L2 c s) (o := (none, .int a5, sM Ln I2 L2 c s)) rfl rfl h (by omega)
    · have h := h.2 hc
      refine dd_Rn.retK 1 (pc := 15) (ls := [.ref 148, .int a4]) (st := [.int 0]) (M := sM Ln I L c s) (o := (none, .int 0, sM Ln I L c s)) rfl rfl (dd_Af.ret rfl ?_) (by omega)
      show dd_Rn (e + 16) m_X11_latestFrom (35, [.ref 148, .int a1, .int a2, .int a3, .int a4, .int a5], [.int 0], sM Ln I L c s) _
      refine dd_Rn.cV 3 (pc := 41) (ls := [.ref 148, .int a1, .int a2, .int a3, .int a4, .int a5]) (st := [.int a4, .ref 148]) (x := m_X11_beatFor) (as := [.ref 148, .int a4]) (rest := []) rfl rfl rfl rfl h ?_
      intro I3 L3 h
      show dd_Rn (e + 16) m_X11_latestFrom (44, [.ref 148, .int a1, .int a2, .int a3, .int a4, .int a5], [], sM Ln I3 L3 c s) _
      exact dd_Rn.go 2 (cf' := (22, [.ref 148, .int a1, .int a2, .int a3, .int a4, .int (a5 + 1)], [], sM Ln I3 L3 c s)) rfl h (by omega)

theorem w_X11_silenceOf_0 {Ln d c s : Nat} {I : Nat → Nat → Int32} {L : Nat → Nat → Int64} {Q : dd_O → Prop} {a1 : Int32} (hd : 28 ≤ d) (h : dd_Rn d m_X11_silenceOf (4, [.ref 148, .int a1, .int 0, .int 0], [], sM Ln I L c s) Q) : dd_Ev d m_X11_silenceOf [.ref 148, .int a1] (sM Ln I L c s) Q := by
  obtain ⟨e, rfl⟩ : ∃ e, d = e + 16 := ⟨d - 16, by omega⟩
  show dd_Rn (e + 16) m_X11_silenceOf (0, [.ref 148, .int a1, .null, .null], [], sM Ln I L c s) Q
  exact dd_Rn.go 4 (cf' := (4, [.ref 148, .int a1, .int 0, .int 0], [], sM Ln I L c s)) rfl h (by omega)

theorem w_X11_silenceOf_4 {Ln d c s : Nat} {I : Nat → Nat → Int32} {L : Nat → Nat → Int64} {Q : dd_O → Prop} {a1 a2 a3 : Int32} (hd : 28 ≤ d) (h : (((8 : Int32) ≤ a3 → Q (none, .int a2, sM Ln I L c s)) ∧ (¬ ((8 : Int32) ≤ a3) → ((0 ≤ ((139 : Int32) + ((8 : Int32) * a1)) + a3 ∧ tn (((139 : Int32) + ((8 : Int32) * a1)) + a3) < 2220) ∧ ((I 149 (tn (((139 : Int32) + ((8 : Int32) * a1)) + a3)) = 0 → dd_Rn d m_X11_silenceOf (4, [.ref 148, .int a1, .int (a2 + 1), .int (a3 + 1)], [], sM Ln I L c s) Q) ∧ (¬ (I 149 (tn (((139 : Int32) + ((8 : Int32) * a1)) + a3)) = 0) → dd_Rn d m_X11_silenceOf (4, [.ref 148, .int a1, .int (a2 + 0), .int (a3 + 1)], [], sM Ln I L c s) Q)))))) : dd_Rn d m_X11_silenceOf (4, [.ref 148, .int a1, .int a2, .int a3], [], sM Ln I L c s) Q := by
  obtain ⟨e, rfl⟩ : ∃ e, d = e + 16 := ⟨d - 16, by omega⟩
  refine dd_Rn.ite 2 (c := (8 : Int32) ≤ a3) (A := (37, [.ref 148, .int a1, .int a2, .int a3], [], sM Ln I L c s)) (B := (10, [.ref 148, .int a1, .int a2, .int a3], [], sM Ln I L c s)) rfl (fun hc => ?_) (fun hc => ?_) (by omega)
  · have h := h.1 hc
    exact dd_Rn.retK 1 (pc := 38) (ls := [.ref 148, .int a1, .int a2, .int a3]) (st := [.int a2]) (M := sM Ln I L c s) (o := (none, .int a2, sM Ln I L c s)) rfl rfl h (by omega)
  · have h := h.2 hc
    refine dd_Rn.sub 5 (pc := 17) (ls := [.ref 148, .int a1, .int a2, .int a3]) (st := [.int a3, .int a1, .ref 149, .int a2]) (M := sM Ln I L c s) (x := m_X11_noteAt) (as := [.int a1, .int a3]) (rest := [.ref 149, .int a2]) rfl rfl rfl rfl ?_
    show dd_Rn (e + 15) m_X11_noteAt (0, [.int a1, .int a3], [], sM Ln I L c s) _
    refine dd_Rn.retK 7 (pc := 10) (ls := [.int a1, .int a3]) (st := [.int (((139 : Int32) + ((8 : Int32) * a1)) + a3)]) (M := sM Ln I L c s) (o := (none, .int (((139 : Int32) + ((8 : Int32) * a1)) + a3), sM Ln I L c s)) rfl rfl (dd_Af.ret rfl ?_) (by omega)
    show dd_Rn (e + 16) m_X11_silenceOf (20, [.ref 148, .int a1, .int a2, .int a3], [.int (((139 : Int32) + ((8 : Int32) * a1)) + a3), .ref 149, .int a2], sM Ln I L c s) _
    obtain ⟨hc, h⟩ := h
    refine dd_Rn.chk 0 (c := 0 ≤ ((139 : Int32) + ((8 : Int32) * a1)) + a3 ∧ tn (((139 : Int32) + ((8 : Int32) * a1)) + a3) < 2220) (A := (21, [.ref 148, .int a1, .int a2, .int a3], [.int (I 149 (tn (((139 : Int32) + ((8 : Int32) * a1)) + a3))), .int a2], sM Ln I L c s)) rfl hc ?_ (by omega)
    refine dd_Rn.ite 0 (c := I 149 (tn (((139 : Int32) + ((8 : Int32) * a1)) + a3)) = 0) (A := (24, [.ref 148, .int a1, .int a2, .int a3], [.int a2], sM Ln I L c s)) (B := (28, [.ref 148, .int a1, .int a2, .int a3], [.int a2], sM Ln I L c s)) rfl (fun hc => ?_) (fun hc => ?_) (by omega)
    · have h := h.1 hc
      exact dd_Rn.go 6 (cf' := (4, [.ref 148, .int a1, .int (a2 + 1), .int (a3 + 1)], [], sM Ln I L c s)) rfl h (by omega)
    · have h := h.2 hc
      exact dd_Rn.go 5 (cf' := (4, [.ref 148, .int a1, .int (a2 + 0), .int (a3 + 1)], [], sM Ln I L c s)) rfl h (by omega)

theorem w_X11_inOnes_0 {Ln d c s : Nat} {I : Nat → Nat → Int32} {L : Nat → Nat → Int64} {Q : dd_O → Prop} (hd : 28 ≤ d) (h : dd_Ev (d - 1) m_X11_outOnes [.ref 148] (sM Ln I L c s) (dd_RI Ln c s (fun x1 I1 L1 => Q (none, .int ((((1 : Int32) <<< ((I 149 1) &&& 31)) - 1) &&& (x1 ^^^ (-1))), sM Ln I1 L1 c s)))) : dd_Ev d m_X11_inOnes [.ref 148] (sM Ln I L c s) Q := by
  obtain ⟨e, rfl⟩ : ∃ e, d = e + 16 := ⟨d - 16, by omega⟩
  show dd_Rn (e + 16) m_X11_inOnes (0, [.ref 148], [], sM Ln I L c s) Q
  refine dd_Rn.sub 1 (pc := 1) (ls := [.ref 148]) (st := [.ref 148]) (M := sM Ln I L c s) (x := m_X11_allBoys) (as := [.ref 148]) (rest := []) rfl rfl rfl rfl ?_
  show dd_Rn (e + 15) m_X11_allBoys (0, [.ref 148], [], sM Ln I L c s) _
  refine dd_Rn.sub 2 (pc := 2) (ls := [.ref 148]) (st := [.ref 148, .int 1]) (M := sM Ln I L c s) (x := m_X11_boys) (as := [.ref 148]) (rest := [.int 1]) rfl rfl rfl rfl ?_
  show dd_Rn (e + 14) m_X11_boys (0, [.ref 148], [], sM Ln I L c s) _
  refine dd_Rn.retK 4 (pc := 6) (ls := [.ref 148]) (st := [.int (I 149 1)]) (M := sM Ln I L c s) (o := (none, .int (I 149 1), sM Ln I L c s)) rfl rfl (dd_Af.ret rfl ?_) (by omega)
  show dd_Rn (e + 15) m_X11_allBoys (5, [.ref 148], [.int (I 149 1), .int 1], sM Ln I L c s) _
  refine dd_Rn.retK 3 (pc := 8) (ls := [.ref 148]) (st := [.int (((1 : Int32) <<< ((I 149 1) &&& 31)) - 1)]) (M := sM Ln I L c s) (o := (none, .int (((1 : Int32) <<< ((I 149 1) &&& 31)) - 1), sM Ln I L c s)) rfl rfl (dd_Af.ret rfl ?_) (by omega)
  show dd_Rn (e + 16) m_X11_inOnes (4, [.ref 148], [.int (((1 : Int32) <<< ((I 149 1) &&& 31)) - 1)], sM Ln I L c s) _
  refine dd_Rn.cI 1 (pc := 5) (ls := [.ref 148]) (st := [.ref 148, .int (((1 : Int32) <<< ((I 149 1) &&& 31)) - 1)]) (x := m_X11_outOnes) (as := [.ref 148]) (rest := [.int (((1 : Int32) <<< ((I 149 1) &&& 31)) - 1)]) rfl rfl rfl rfl h ?_
  intro x1 I1 L1 h
  show dd_Rn (e + 16) m_X11_inOnes (8, [.ref 148], [.int x1, .int (((1 : Int32) <<< ((I 149 1) &&& 31)) - 1)], sM Ln I1 L1 c s) _
  exact dd_Rn.retK 3 (pc := 11) (ls := [.ref 148]) (st := [.int ((((1 : Int32) <<< ((I 149 1) &&& 31)) - 1) &&& (x1 ^^^ (-1)))]) (M := sM Ln I1 L1 c s) (o := (none, .int ((((1 : Int32) <<< ((I 149 1) &&& 31)) - 1) &&& (x1 ^^^ (-1))), sM Ln I1 L1 c s)) rfl rfl h (by omega)
