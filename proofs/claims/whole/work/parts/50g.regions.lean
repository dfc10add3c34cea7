/-! Region lemmas, written by program (gen/regions_all.py) -/
theorem w_X11_quiet_0 {Ln d c s : Nat} {I : Nat → Nat → Int32} {L : Nat → Nat → Int64} {Q : dd_O → Prop} (hd : 28 ≤ d) (h : dd_Rn d m_X11_quiet (9, [.ref 148, .int (-1), .int 0], [], sM Ln (dd_u I 148 (upd (I 148) 0 0)) L c s) Q) : dd_Ev d m_X11_quiet [.ref 148] (sM Ln I L c s) Q := by
  obtain ⟨e, rfl⟩ : ∃ e, d = e + 16 := ⟨d - 16, by omega⟩
  show dd_Rn (e + 16) m_X11_quiet (0, [.ref 148, .null, .null], [], sM Ln I L c s) Q
  exact dd_Rn.go 7 (cf' := (9, [.ref 148, .int (-1), .int 0], [], sM Ln (dd_u I 148 (upd (I 148) 0 0)) L c s)) rfl h (by omega)

theorem w_X11_quiet_9 {Ln d c s : Nat} {I : Nat → Nat → Int32} {L : Nat → Nat → Int64} {Q : dd_O → Prop} {a1 a2 : Int32} (hd : 28 ≤ d) (h : ((I 149 0 ≤ a2 → Q (none, .int a1, sM Ln I L c s)) ∧ (¬ (I 149 0 ≤ a2) → ((a1 = (-1) → dd_Rn d m_X11_quiet (9, [.ref 148, .int a2, .int (a2 + 1)], [], sM Ln I L c s) Q) ∧ (¬ (a1 = (-1)) → dd_Ev (d - 1) m_X11_silenceOf [.ref 148, .int a2] (sM Ln I L c s) (dd_RI Ln c s (fun x1 I1 L1 => dd_Ev (d - 1) m_X11_silenceOf [.ref 148, .int a1] (sM Ln I1 L1 c s) (dd_RI Ln c s (fun x2 I2 L2 => ((x1 ≤ x2 → dd_Rn d m_X11_quiet (9, [.ref 148, .int a1, .int (a2 + 1)], [], sM Ln I2 L2 c s) Q) ∧ (¬ (x1 ≤ x2) → dd_Rn d m_X11_quiet (9, [.ref 148, .int a2, .int (a2 + 1)], [], sM Ln I2 L2 c s) Q))))))))))) : dd_Rn d m_X11_quiet (9, [.ref 148, .int a1, .int a2], [], sM Ln I L c s) Q := by
  obtain ⟨e, rfl⟩ : ∃ e, d = e + 16 := ⟨d - 16, by omega⟩
  refine dd_Rn.sub 2 (pc := 11) (ls := [.ref 148, .int a1, .int a2]) (st := [.ref 148, .int a2]) (M := sM Ln I L c s) (x := m_X11_parts) (as := [.ref 148]) (rest := [.int a2]) rfl rfl rfl rfl ?_
  show dd_Rn (e + 15) m_X11_parts (0, [.ref 148], [], sM Ln I L c s) _
  refine dd_Rn.retK 4 (pc := 6) (ls := [.ref 148]) (st := [.int (I 149 0)]) (M := sM Ln I L c s) (o := (none, .int (I 149 0), sM Ln I L c s)) rfl rfl (dd_Af.ret rfl ?_) (by omega)
  show dd_Rn (e + 16) m_X11_quiet (14, [.ref 148, .int a1, .int a2], [.int (I 149 0), .int a2], sM Ln I L c s) _
  refine dd_Rn.ite 0 (c := I 149 0 ≤ a2) (A := (43, [.ref 148, .int a1, .int a2], [], sM Ln I L c s)) (B := (17, [.ref 148, .int a1, .int a2], [], sM Ln I L c s)) rfl (fun hc => ?_) (fun hc => ?_) (by omega)
  · have h := h.1 hc
    exact dd_Rn.retK 1 (pc := 44) (ls := [.ref 148, .int a1, .int a2]) (st := [.int a1]) (M := sM Ln I L c s) (o := (none, .int a1, sM Ln I L c s)) rfl rfl h (by omega)
  · have h := h.2 hc
    refine dd_Rn.ite 2 (c := a1 = (-1)) (A := (35, [.ref 148, .int a1, .int a2], [], sM Ln I L c s)) (B := (22, [.ref 148, .int a1, .int a2], [], sM Ln I L c s)) rfl (fun hc => ?_) (fun hc => ?_) (by omega)
    · have h := h.1 hc
      exact dd_Rn.go 4 (cf' := (9, [.ref 148, .int a2, .int (a2 + 1)], [], sM Ln I L c s)) rfl h (by omega)
    · have h := h.2 hc
      refine dd_Rn.cI 2 (pc := 24) (ls := [.ref 148, .int a1, .int a2]) (st := [.int a2, .ref 148]) (x := m_X11_silenceOf) (as := [.ref 148, .int a2]) (rest := []) rfl rfl rfl rfl h ?_
      intro x1 I1 L1 h
      show dd_Rn (e + 16) m_X11_quiet (27, [.ref 148, .int a1, .int a2], [.int x1], sM Ln I1 L1 c s) _
      refine dd_Rn.cI 2 (pc := 29) (ls := [.ref 148, .int a1, .int a2]) (st := [.int a1, .ref 148, .int x1]) (x := m_X11_silenceOf) (as := [.ref 148, .int a1]) (rest := [.int x1]) rfl rfl rfl rfl h ?_
      intro x2 I2 L2 h
      show dd_Rn (e + 16) m_X11_quiet (32, [.ref 148, .int a1, .int a2], [.int x2, .int x1], sM Ln I2 L2 c s) _
      refine dd_Rn.ite 0 (c := x1 ≤ x2) (A := (37, [.ref 148, .int a1, .int a2], [], sM Ln I2 L2 c s)) (B := (35, [.ref 148, .int a1, .int a2], [], sM Ln I2 L2 c s)) rfl (fun hc => ?_) (fun hc => ?_) (by omega)
      · have h := h.1 hc
        exact dd_Rn.go 2 (cf' := (9, [.ref 148, .int a1, .int (a2 + 1)], [], sM Ln I2 L2 c s)) rfl h (by omega)
      · have h := h.2 hc
        exact dd_Rn.go 4 (cf' := (9, [.ref 148, .int a2, .int (a2 + 1)], [], sM Ln I2 L2 c s)) rfl h (by omega)

theorem w_X11_allWatched_0 {Ln d c s : Nat} {I : Nat → Nat → Int32} {L : Nat → Nat → Int64} {Q : dd_O → Prop} {a1 : Int32} (hd : 28 ≤ d) (h : dd_Rn d m_X11_allWatched (4, [.ref 148, .int a1, .int a1, .int 0, .null], [], sM Ln I L c s) Q) : dd_Ev d m_X11_allWatched [.ref 148, .int a1] (sM Ln I L c s) Q := by
  obtain ⟨e, rfl⟩ : ∃ e, d = e + 16 := ⟨d - 16, by omega⟩
  show dd_Rn (e + 16) m_X11_allWatched (0, [.ref 148, .int a1, .null, .null, .null], [], sM Ln I L c s) Q
  exact dd_Rn.go 4 (cf' := (4, [.ref 148, .int a1, .int a1, .int 0, .null], [], sM Ln I L c s)) rfl h (by omega)

theorem w_X11_allWatched_4 {Ln d c s : Nat} {I : Nat → Nat → Int32} {L : Nat → Nat → Int64} {Q : dd_O → Prop} {a1 a2 a3 : Int32} {a4 : Value} (hd : 28 ≤ d) (h : ((I 149 1 ≤ a3 → dd_Ev (d - 1) m_X11_outOnes [.ref 148] (sM Ln I L c s) (dd_RI Ln c s (fun x1 I1 L1 => ((x1 &&& (a2 ^^^ (-1)) = 0 → Q (none, .int 1, sM Ln I1 L1 c s)) ∧ (¬ (x1 &&& (a2 ^^^ (-1)) = 0) → Q (none, .int 0, sM Ln I1 L1 c s)))))) ∧ (¬ (I 149 1 ≤ a3) → dd_Rn d m_X11_allWatched (15, [.ref 148, .int a1, .int a2, .int a3, .int 0], [], sM Ln I L c s) Q))) : dd_Rn d m_X11_allWatched (4, [.ref 148, .int a1, .int a2, .int a3, a4], [], sM Ln I L c s) Q := by
  obtain ⟨e, rfl⟩ : ∃ e, d = e + 16 := ⟨d - 16, by omega⟩
  refine dd_Rn.sub 2 (pc := 6) (ls := [.ref 148, .int a1, .int a2, .int a3, a4]) (st := [.ref 148, .int a3]) (M := sM Ln I L c s) (x := m_X11_boys) (as := [.ref 148]) (rest := [.int a3]) rfl rfl rfl rfl ?_
  show dd_Rn (e + 15) m_X11_boys (0, [.ref 148], [], sM Ln I L c s) _
  refine dd_Rn.retK 4 (pc := 6) (ls := [.ref 148]) (st := [.int (I 149 1)]) (M := sM Ln I L c s) (o := (none, .int (I 149 1), sM Ln I L c s)) rfl rfl (dd_Af.ret rfl ?_) (by omega)
  show dd_Rn (e + 16) m_X11_allWatched (9, [.ref 148, .int a1, .int a2, .int a3, a4], [.int (I 149 1), .int a3], sM Ln I L c s) _
  refine dd_Rn.ite 0 (c := I 149 1 ≤ a3) (A := (75, [.ref 148, .int a1, .int a2, .int a3, a4], [], sM Ln I L c s)) (B := (12, [.ref 148, .int a1, .int a2, .int a3, a4], [], sM Ln I L c s)) rfl (fun hc => ?_) (fun hc => ?_) (by omega)
  · have h := h.1 hc
    refine dd_Rn.cI 1 (pc := 76) (ls := [.ref 148, .int a1, .int a2, .int a3, a4]) (st := [.ref 148]) (x := m_X11_outOnes) (as := [.ref 148]) (rest := []) rfl rfl rfl rfl h ?_
    intro x1 I1 L1 h
    show dd_Rn (e + 16) m_X11_allWatched (79, [.ref 148, .int a1, .int a2, .int a3, a4], [.int x1], sM Ln I1 L1 c s) _
    refine dd_Rn.ite 4 (c := x1 &&& (a2 ^^^ (-1)) = 0) (A := (86, [.ref 148, .int a1, .int a2, .int a3, a4], [], sM Ln I1 L1 c s)) (B := (90, [.ref 148, .int a1, .int a2, .int a3, a4], [], sM Ln I1 L1 c s)) rfl (fun hc => ?_) (fun hc => ?_) (by omega)
    · have h := h.1 hc
      exact dd_Rn.retK 2 (pc := 91) (ls := [.ref 148, .int a1, .int a2, .int a3, a4]) (st := [.int 1]) (M := sM Ln I1 L1 c s) (o := (none, .int 1, sM Ln I1 L1 c s)) rfl rfl h (by omega)
    · have h := h.2 hc
      exact dd_Rn.retK 1 (pc := 91) (ls := [.ref 148, .int a1, .int a2, .int a3, a4]) (st := [.int 0]) (M := sM Ln I1 L1 c s) (o := (none, .int 0, sM Ln I1 L1 c s)) rfl rfl h (by omega)
  · have h := h.2 hc
    exact dd_Rn.go 2 (cf' := (15, [.ref 148, .int a1, .int a2, .int a3, .int 0], [], sM Ln I L c s)) rfl h (by omega)

theorem w_X11_allWatched_15 {Ln d c s : Nat} {I : Nat → Nat → Int32} {L : Nat → Nat → Int64} {Q : dd_O → Prop} {a1 a2 a3 a4 : Int32} (hd : 28 ≤ d) (h : ((I 149 1 ≤ a4 → dd_Rn d m_X11_allWatched (4, [.ref 148, .int a1, .int a2, .int (a3 + 1), .int a4], [], sM Ln I L c s) Q) ∧ (¬ (I 149 1 ≤ a4) → (((a1 >>> (a3 &&& 31) : Int32) &&& (1 : Int32) = 1 → ((0 ≤ ((187 : Int32) + ((5 : Int32) * a3)) + 0 ∧ tn (((187 : Int32) + ((5 : Int32) * a3)) + 0) < 2220) ∧ ((0 ≤ ((187 : Int32) + ((5 : Int32) * a4)) + 0 ∧ tn (((187 : Int32) + ((5 : Int32) * a4)) + 0) < 2220) ∧ dd_Ev (d - 1) m_X11_gapOf [.int (I 149 (tn (((187 : Int32) + ((5 : Int32) * a3)) + 0))), .int (I 149 (tn (((187 : Int32) + ((5 : Int32) * a4)) + 0)))] (sM Ln I L c s) (dd_RI Ln c s (fun x1 I1 L1 => (((3 : Int32) < x1 → dd_Rn d m_X11_allWatched (15, [.ref 148, .int a1, .int (a2 ||| 0), .int a3, .int (a4 + 1)], [], sM Ln I1 L1 c s) Q) ∧ (¬ ((3 : Int32) < x1) → dd_Rn d m_X11_allWatched (15, [.ref 148, .int a1, .int (a2 ||| ((1 : Int32) <<< (a4 &&& 31))), .int a3, .int (a4 + 1)], [], sM Ln I1 L1 c s) Q))))))) ∧ (¬ ((a1 >>> (a3 &&& 31) : Int32) &&& (1 : Int32) = 1) → dd_Rn d m_X11_allWatched (15, [.ref 148, .int a1, .int (a2 ||| 0), .int a3, .int (a4 + 1)], [], sM Ln I L c s) Q))))) : dd_Rn d m_X11_allWatched (15, [.ref 148, .int a1, .int a2, .int a3, .int a4], [], sM Ln I L c s) Q := by
  obtain ⟨e, rfl⟩ : ∃ e, d = e + 16 := ⟨d - 16, by omega⟩
  refine dd_Rn.sub 2 (pc := 18) (ls := [.ref 148, .int a1, .int a2, .int a3, .int a4]) (st := [.ref 148, .int a4]) (M := sM Ln I L c s) (x := m_X11_boys) (as := [.ref 148]) (rest := [.int a4]) rfl rfl rfl rfl ?_
  show dd_Rn (e + 15) m_X11_boys (0, [.ref 148], [], sM Ln I L c s) _
  refine dd_Rn.retK 4 (pc := 6) (ls := [.ref 148]) (st := [.int (I 149 1)]) (M := sM Ln I L c s) (o := (none, .int (I 149 1), sM Ln I L c s)) rfl rfl (dd_Af.ret rfl ?_) (by omega)
  show dd_Rn (e + 16) m_X11_allWatched (21, [.ref 148, .int a1, .int a2, .int a3, .int a4], [.int (I 149 1), .int a4], sM Ln I L c s) _
  refine dd_Rn.ite 0 (c := I 149 1 ≤ a4) (A := (69, [.ref 148, .int a1, .int a2, .int a3, .int a4], [], sM Ln I L c s)) (B := (24, [.ref 148, .int a1, .int a2, .int a3, .int a4], [], sM Ln I L c s)) rfl (fun hc => ?_) (fun hc => ?_) (by omega)
  · have h := h.1 hc
    exact dd_Rn.go 2 (cf' := (4, [.ref 148, .int a1, .int a2, .int (a3 + 1), .int a4], [], sM Ln I L c s)) rfl h (by omega)
  · have h := h.2 hc
    refine dd_Rn.sub 3 (pc := 27) (ls := [.ref 148, .int a1, .int a2, .int a3, .int a4]) (st := [.int a3, .int a1, .int a2]) (M := sM Ln I L c s) (x := m_X11_has) (as := [.int a1, .int a3]) (rest := [.int a2]) rfl rfl rfl rfl ?_
    show dd_Rn (e + 15) m_X11_has (0, [.int a1, .int a3], [], sM Ln I L c s) _
    refine dd_Rn.ite 6 (c := (a1 >>> (a3 &&& 31) : Int32) &&& (1 : Int32) = 1) (A := (9, [.int a1, .int a3], [], sM Ln I L c s)) (B := (13, [.int a1, .int a3], [], sM Ln I L c s)) rfl (fun hc => ?_) (fun hc => ?_) (by omega)
    · have h := h.1 hc
      refine dd_Rn.retK 2 (pc := 14) (ls := [.int a1, .int a3]) (st := [.int 1]) (M := sM Ln I L c s) (o := (none, .int 1, sM Ln I L c s)) rfl rfl (dd_Af.ret rfl ?_) (by omega)
      show dd_Rn (e + 16) m_X11_allWatched (30, [.ref 148, .int a1, .int a2, .int a3, .int a4], [.int 1, .int a2], sM Ln I L c s) _
      refine dd_Rn.sub 4 (pc := 36) (ls := [.ref 148, .int a1, .int a2, .int a3, .int a4]) (st := [.int 0, .int a3, .ref 148, .int a2]) (M := sM Ln I L c s) (x := m_X11_of) (as := [.ref 148, .int a3, .int 0]) (rest := [.int a2]) rfl rfl rfl rfl ?_
      show dd_Rn (e + 15) m_X11_of (0, [.ref 148, .int a3, .int 0], [], sM Ln I L c s) _
      refine dd_Rn.sub 4 (pc := 6) (ls := [.ref 148, .int a3, .int 0]) (st := [.int 0, .int a3, .ref 149]) (M := sM Ln I L c s) (x := m_X11_at) (as := [.int a3, .int 0]) (rest := [.ref 149]) rfl rfl rfl rfl ?_
      show dd_Rn (e + 14) m_X11_at (0, [.int a3, .int 0], [], sM Ln I L c s) _
      refine dd_Rn.retK 7 (pc := 9) (ls := [.int a3, .int 0]) (st := [.int (((187 : Int32) + ((5 : Int32) * a3)) + 0)]) (M := sM Ln I L c s) (o := (none, .int (((187 : Int32) + ((5 : Int32) * a3)) + 0), sM Ln I L c s)) rfl rfl (dd_Af.ret rfl ?_) (by omega)
      show dd_Rn (e + 15) m_X11_of (9, [.ref 148, .int a3, .int 0], [.int (((187 : Int32) + ((5 : Int32) * a3)) + 0), .ref 149], sM Ln I L c s) _
      obtain ⟨hc, h⟩ := h
      refine dd_Rn.ci (fun j0 => (9, [.ref 148, .int a3, .int 0], [.int j0, .ref 149], sM Ln I L c s)) (fun j0 => (10, [.ref 148, .int a3, .int 0], [.int (I 149 (tn j0))], sM Ln I L c s)) (fun j0 => 0 ≤ j0 ∧ tn j0 < 2220) (((187 : Int32) + ((5 : Int32) * a3)) + 0) (fun j0 hc h => dd_Rn.chk 0 (c := 0 ≤ j0 ∧ tn j0 < 2220) (A := (10, [.ref 148, .int a3, .int 0], [.int (I 149 (tn j0))], sM Ln I L c s)) rfl hc h (by omega)) hc ?_
      refine dd_Rn.se (cf := (10, [.ref 148, .int a3, .int 0], [.int (I 149 (tn (((187 : Int32) + ((5 : Int32) * a3)) + 0)))], sM Ln I L c s)) ?_
      refine dd_Rn.retK 0 (pc := 10) (ls := [.ref 148, .int a3, .int 0]) (st := [.int (I 149 (tn (((187 : Int32) + ((5 : Int32) * a3)) + 0)))]) (M := sM Ln I L c s) (o := (none, .int (I 149 (tn (((187 : Int32) + ((5 : Int32) * a3)) + 0))), sM Ln I L c s)) rfl rfl (dd_Af.ret rfl ?_) (by omega)
      show dd_Rn (e + 16) m_X11_allWatched (39, [.ref 148, .int a1, .int a2, .int a3, .int a4], [.int (I 149 (tn (((187 : Int32) + ((5 : Int32) * a3)) + 0))), .int a2], sM Ln I L c s) _
      refine dd_Rn.sub 3 (pc := 43) (ls := [.ref 148, .int a1, .int a2, .int a3, .int a4]) (st := [.int 0, .int a4, .ref 148, .int (I 149 (tn (((187 : Int32) + ((5 : Int32) * a3)) + 0))), .int a2]) (M := sM Ln I L c s) (x := m_X11_of) (as := [.ref 148, .int a4, .int 0]) (rest := [.int (I 149 (tn (((187 : Int32) + ((5 : Int32) * a3)) + 0))), .int a2]) rfl rfl rfl rfl ?_
      show dd_Rn (e + 15) m_X11_of (0, [.ref 148, .int a4, .int 0], [], sM Ln I L c s) _
      refine dd_Rn.sub 4 (pc := 6) (ls := [.ref 148, .int a4, .int 0]) (st := [.int 0, .int a4, .ref 149]) (M := sM Ln I L c s) (x := m_X11_at) (as := [.int a4, .int 0]) (rest := [.ref 149]) rfl rfl rfl rfl ?_
      show dd_Rn (e + 14) m_X11_at (0, [.int a4, .int 0], [], sM Ln I L c s) _
      refine dd_Rn.retK 7 (pc := 9) (ls := [.int a4, .int 0]) (st := [.int (((187 : Int32) + ((5 : Int32) * a4)) + 0)]) (M := sM Ln I L c s) (o := (none, .int (((187 : Int32) + ((5 : Int32) * a4)) + 0), sM Ln I L c s)) rfl rfl (dd_Af.ret rfl ?_) (by omega)
      show dd_Rn (e + 15) m_X11_of (9, [.ref 148, .int a4, .int 0], [.int (((187 : Int32) + ((5 : Int32) * a4)) + 0), .ref 149], sM Ln I L c s) _
      obtain ⟨hc, h⟩ := h
      refine dd_Rn.ci (fun j0 => (9, [.ref 148, .int a4, .int 0], [.int j0, .ref 149], sM Ln I L c s)) (fun j0 => (10, [.ref 148, .int a4, .int 0], [.int (I 149 (tn j0))], sM Ln I L c s)) (fun j0 => 0 ≤ j0 ∧ tn j0 < 2220) (((187 : Int32) + ((5 : Int32) * a4)) + 0) (fun j0 hc h => dd_Rn.chk 0 (c := 0 ≤ j0 ∧ tn j0 < 2220) (A := (10, [.ref 148, .int a4, .int 0], [.int (I 149 (tn j0))], sM Ln I L c s)) rfl hc h (by omega)) hc ?_
      refine dd_Rn.se (cf := (10, [.ref 148, .int a4, .int 0], [.int (I 149 (tn (((187 : Int32) + ((5 : Int32) * a4)) + 0)))], sM Ln I L c s)) ?_
      refine dd_Rn.retK 0 (pc := 10) (ls := [.ref 148, .int a4, .int 0]) (st := [.int (I 149 (tn (((187 : Int32) + ((5 : Int32) * a4)) + 0)))]) (M := sM Ln I L c s) (o := (none, .int (I 149 (tn (((187 : Int32) + ((5 : Int32) * a4)) + 0))), sM Ln I L c s)) rfl rfl (dd_Af.ret rfl ?_) (by omega)
      show dd_Rn (e + 16) m_X11_allWatched (46, [.ref 148, .int a1, .int a2, .int a3, .int a4], [.int (I 149 (tn (((187 : Int32) + ((5 : Int32) * a4)) + 0))), .int (I 149 (tn (((187 : Int32) + ((5 : Int32) * a3)) + 0))), .int a2], sM Ln I L c s) _
      refine dd_Rn.cI 0 (pc := 46) (ls := [.ref 148, .int a1, .int a2, .int a3, .int a4]) (st := [.int (I 149 (tn (((187 : Int32) + ((5 : Int32) * a4)) + 0))), .int (I 149 (tn (((187 : Int32) + ((5 : Int32) * a3)) + 0))), .int a2]) (x := m_X11_gapOf) (as := [.int (I 149 (tn (((187 : Int32) + ((5 : Int32) * a3)) + 0))), .int (I 149 (tn (((187 : Int32) + ((5 : Int32) * a4)) + 0)))]) (rest := [.int a2]) rfl rfl rfl rfl h ?_
      intro x1 I1 L1 h
      show dd_Rn (e + 16) m_X11_allWatched (49, [.ref 148, .int a1, .int a2, .int a3, .int a4], [.int x1, .int a2], sM Ln I1 L1 c s) _
      refine dd_Rn.ite 1 (c := (3 : Int32) < x1) (A := (60, [.ref 148, .int a1, .int a2, .int a3, .int a4], [.int a2], sM Ln I1 L1 c s)) (B := (53, [.ref 148, .int a1, .int a2, .int a3, .int a4], [.int a2], sM Ln I1 L1 c s)) rfl (fun hc => ?_) (fun hc => ?_) (by omega)
      · have h := h.1 hc
        exact dd_Rn.go 5 (cf' := (15, [.ref 148, .int a1, .int (a2 ||| 0), .int a3, .int (a4 + 1)], [], sM Ln I1 L1 c s)) rfl h (by omega)
      · have h := h.2 hc
        exact dd_Rn.go 8 (cf' := (15, [.ref 148, .int a1, .int (a2 ||| ((1 : Int32) <<< (a4 &&& 31))), .int a3, .int (a4 + 1)], [], sM Ln I1 L1 c s)) rfl h (by omega)
    · have h := h.2 hc
      refine dd_Rn.retK 1 (pc := 14) (ls := [.int a1, .int a3]) (st := [.int 0]) (M := sM Ln I L c s) (o := (none, .int 0, sM Ln I L c s)) rfl rfl (dd_Af.ret rfl ?_) (by omega)
      show dd_Rn (e + 16) m_X11_allWatched (30, [.ref 148, .int a1, .int a2, .int a3, .int a4], [.int 0, .int a2], sM Ln I L c s) _
      exact dd_Rn.go 6 (cf' := (15, [.ref 148, .int a1, .int (a2 ||| 0), .int a3, .int (a4 + 1)], [], sM Ln I L c s)) rfl h (by omega)

theorem w_X11_watch_0 {Ln d c s : Nat} {I : Nat → Nat → Int32} {L : Nat → Nat → Int64} {Q : dd_O → Prop} (hd : 28 ≤ d) (h : dd_Ev (d - 1) m_X11_outOnes [.ref 148] (sM Ln (dd_u I 148 (upd (I 148) 0 0)) L c s) (dd_RI Ln c s (fun x1 I1 L1 => dd_Rn d m_X11_watch (14, [.ref 148, .int x1, .int x1, .int x1], [], sM Ln I1 L1 c s) Q))) : dd_Ev d m_X11_watch [.ref 148] (sM Ln I L c s) Q := by
  obtain ⟨e, rfl⟩ : ∃ e, d = e + 16 := ⟨d - 16, by omega⟩
  show dd_Rn (e + 16) m_X11_watch (0, [.ref 148, .null, .null, .null], [], sM Ln I L c s) Q
  refine dd_Rn.cI 4 (pc := 6) (ls := [.ref 148, .null, .null, .null]) (st := [.ref 148]) (x := m_X11_outOnes) (as := [.ref 148]) (rest := []) rfl rfl rfl rfl h ?_
  intro x1 I1 L1 h
  show dd_Rn (e + 16) m_X11_watch (9, [.ref 148, .null, .null, .null], [.int x1], sM Ln I1 L1 c s) _
  exact dd_Rn.go 5 (cf' := (14, [.ref 148, .int x1, .int x1, .int x1], [], sM Ln I1 L1 c s)) rfl h (by omega)

theorem w_X11_watch_14 {Ln d c s : Nat} {I : Nat → Nat → Int32} {L : Nat → Nat → Int64} {Q : dd_O → Prop} {a1 a2 a3 : Int32} (hd : 28 ≤ d) (h : ((a3 < 0 → Q (none, .int a2, sM Ln I L c s)) ∧ (¬ (a3 < 0) → ((a3 &&& (a1 ^^^ (-1)) = 0 → dd_Ev (d - 1) m_J6_bitCount_0f7a4 [.int a3] (sM Ln I L c s) (dd_RI Ln c s (fun x1 I1 L1 => dd_Ev (d - 1) m_J6_bitCount_0f7a4 [.int a2] (sM Ln I1 L1 c s) (dd_RI Ln c s (fun x2 I2 L2 => ((x2 < x1 → dd_Rn d m_X11_watch (14, [.ref 148, .int a1, .int a2, .int (a3 + (-1))], [], sM Ln I2 L2 c s) Q) ∧ (¬ (x2 < x1) → dd_Ev (d - 1) m_X11_allWatched [.ref 148, .int a3] (sM Ln I2 L2 c s) (dd_RI Ln c s (fun x3 I3 L3 => ((x3 = 0 → dd_Rn d m_X11_watch (14, [.ref 148, .int a1, .int a2, .int (a3 + (-1))], [], sM Ln I3 L3 c s) Q) ∧ (¬ (x3 = 0) → dd_Rn d m_X11_watch (14, [.ref 148, .int a1, .int a3, .int (a3 + (-1))], [], sM Ln I3 L3 c s) Q))))))))))) ∧ (¬ (a3 &&& (a1 ^^^ (-1)) = 0) → dd_Rn d m_X11_watch (14, [.ref 148, .int a1, .int a2, .int (a3 + (-1))], [], sM Ln I L c s) Q))))) : dd_Rn d m_X11_watch (14, [.ref 148, .int a1, .int a2, .int a3], [], sM Ln I L c s) Q := by
  obtain ⟨e, rfl⟩ : ∃ e, d = e + 16 := ⟨d - 16, by omega⟩
  refine dd_Rn.ite 1 (c := a3 < 0) (A := (53, [.ref 148, .int a1, .int a2, .int a3], [], sM Ln I L c s)) (B := (18, [.ref 148, .int a1, .int a2, .int a3], [], sM Ln I L c s)) rfl (fun hc => ?_) (fun hc => ?_) (by omega)
  · have h := h.1 hc
    exact dd_Rn.retK 1 (pc := 54) (ls := [.ref 148, .int a1, .int a2, .int a3]) (st := [.int a2]) (M := sM Ln I L c s) (o := (none, .int a2, sM Ln I L c s)) rfl rfl h (by omega)
  · have h := h.2 hc
    refine dd_Rn.ite 5 (c := a3 &&& (a1 ^^^ (-1)) = 0) (A := (26, [.ref 148, .int a1, .int a2, .int a3], [], sM Ln I L c s)) (B := (47, [.ref 148, .int a1, .int a2, .int a3], [], sM Ln I L c s)) rfl (fun hc => ?_) (fun hc => ?_) (by omega)
    · have h := h.1 hc
      refine dd_Rn.cI 1 (pc := 27) (ls := [.ref 148, .int a1, .int a2, .int a3]) (st := [.int a3]) (x := m_J6_bitCount_0f7a4) (as := [.int a3]) (rest := []) rfl rfl rfl rfl h ?_
      intro x1 I1 L1 h
      show dd_Rn (e + 16) m_X11_watch (30, [.ref 148, .int a1, .int a2, .int a3], [.int x1], sM Ln I1 L1 c s) _
      refine dd_Rn.cI 1 (pc := 31) (ls := [.ref 148, .int a1, .int a2, .int a3]) (st := [.int a2, .int x1]) (x := m_J6_bitCount_0f7a4) (as := [.int a2]) (rest := [.int x1]) rfl rfl rfl rfl h ?_
      intro x2 I2 L2 h
      show dd_Rn (e + 16) m_X11_watch (34, [.ref 148, .int a1, .int a2, .int a3], [.int x2, .int x1], sM Ln I2 L2 c s) _
      refine dd_Rn.ite 0 (c := x2 < x1) (A := (47, [.ref 148, .int a1, .int a2, .int a3], [], sM Ln I2 L2 c s)) (B := (37, [.ref 148, .int a1, .int a2, .int a3], [], sM Ln I2 L2 c s)) rfl (fun hc => ?_) (fun hc => ?_) (by omega)
      · have h := h.1 hc
        exact dd_Rn.go 2 (cf' := (14, [.ref 148, .int a1, .int a2, .int (a3 + (-1))], [], sM Ln I2 L2 c s)) rfl h (by omega)
      · have h := h.2 hc
        refine dd_Rn.cI 2 (pc := 39) (ls := [.ref 148, .int a1, .int a2, .int a3]) (st := [.int a3, .ref 148]) (x := m_X11_allWatched) (as := [.ref 148, .int a3]) (rest := []) rfl rfl rfl rfl h ?_
        intro x3 I3 L3 h
        show dd_Rn (e + 16) m_X11_watch (42, [.ref 148, .int a1, .int a2, .int a3], [.int x3], sM Ln I3 L3 c s) _
        refine dd_Rn.ite 0 (c := x3 = 0) (A := (47, [.ref 148, .int a1, .int a2, .int a3], [], sM Ln I3 L3 c s)) (B := (45, [.ref 148, .int a1, .int a2, .int a3], [], sM Ln I3 L3 c s)) rfl (fun hc => ?_) (fun hc => ?_) (by omega)
        · have h := h.1 hc
          exact dd_Rn.go 2 (cf' := (14, [.ref 148, .int a1, .int a2, .int (a3 + (-1))], [], sM Ln I3 L3 c s)) rfl h (by omega)
        · have h := h.2 hc
          exact dd_Rn.go 4 (cf' := (14, [.ref 148, .int a1, .int a3, .int (a3 + (-1))], [], sM Ln I3 L3 c s)) rfl h (by omega)
    · have h := h.2 hc
      exact dd_Rn.go 2 (cf' := (14, [.ref 148, .int a1, .int a2, .int (a3 + (-1))], [], sM Ln I L c s)) rfl h (by omega)

theorem w_X11_rests_0 {Ln d c s : Nat} {I : Nat → Nat → Int32} {L : Nat → Nat → Int64} {Q : dd_O → Prop} {a1 : Int32} (hd : 28 ≤ d) (h : ((a1 < 0 → Q (none, .int 0, sM Ln (dd_u (dd_u I 148 (upd (I 148) 0 0)) 148 (upd (upd (I 148) 0 0) 0 1)) L c s)) ∧ (¬ (a1 < 0) → (((I 149 1) - 1 < a1 → Q (none, .int 0, sM Ln (dd_u (dd_u I 148 (upd (I 148) 0 0)) 148 (upd (upd (I 148) 0 0) 0 1)) L c s)) ∧ (¬ ((I 149 1) - 1 < a1) → ((0 ≤ ((187 : Int32) + ((5 : Int32) * a1)) + 3 ∧ tn (((187 : Int32) + ((5 : Int32) * a1)) + 3) < 2220) ∧ ((I 149 (tn (((187 : Int32) + ((5 : Int32) * a1)) + 3)) = 1 → Q (none, .int (-1), sM Ln (dd_u I 148 (upd (I 148) 0 0)) L c s)) ∧ (¬ (I 149 (tn (((187 : Int32) + ((5 : Int32) * a1)) + 3)) = 1) → ((0 ≤ ((187 : Int32) + ((5 : Int32) * a1)) + 0 ∧ tn (((187 : Int32) + ((5 : Int32) * a1)) + 0) < 2220) ∧ dd_Ev (d - 1) m_X11_nearOf [.ref 148, .int (I 149 (tn (((187 : Int32) + ((5 : Int32) * a1)) + 0)))] (sM Ln (dd_u I 148 (upd (I 148) 0 0)) L c s) (dd_RI Ln c s (fun x1 I1 L1 => dd_Rn d m_X11_rests (46, [.ref 148, .int a1, .int x1, .int 0, .int 0, .null], [], sM Ln I1 L1 c s) Q))))))))))) : dd_Ev d m_X11_rests [.ref 148, .int a1] (sM Ln I L c s) Q := by
  obtain ⟨e, rfl⟩ : ∃ e, d = e + 16 := ⟨d - 16, by omega⟩
  show dd_Rn (e + 16) m_X11_rests (0, [.ref 148, .int a1, .null, .null, .null, .null], [], sM Ln I L c s) Q
  refine dd_Rn.sub 6 (pc := 8) (ls := [.ref 148, .int a1, .null, .null, .null, .null]) (st := [.int a1, .ref 148, .ref 148]) (M := sM Ln (dd_u I 148 (upd (I 148) 0 0)) L c s) (x := m_X11_noBoy) (as := [.ref 148, .int a1]) (rest := [.ref 148]) rfl rfl rfl rfl ?_
  show dd_Rn (e + 15) m_X11_noBoy (0, [.ref 148, .int a1], [], sM Ln (dd_u I 148 (upd (I 148) 0 0)) L c s) _
  refine dd_Rn.sub 3 (pc := 3) (ls := [.ref 148, .int a1]) (st := [.ref 148, .int 0, .int a1]) (M := sM Ln (dd_u I 148 (upd (I 148) 0 0)) L c s) (x := m_X11_boys) (as := [.ref 148]) (rest := [.int 0, .int a1]) rfl rfl rfl rfl ?_
  show dd_Rn (e + 14) m_X11_boys (0, [.ref 148], [], sM Ln (dd_u I 148 (upd (I 148) 0 0)) L c s) _
  refine dd_Rn.retK 4 (pc := 6) (ls := [.ref 148]) (st := [.int (I 149 1)]) (M := sM Ln (dd_u I 148 (upd (I 148) 0 0)) L c s) (o := (none, .int (I 149 1), sM Ln (dd_u I 148 (upd (I 148) 0 0)) L c s)) rfl rfl (dd_Af.ret rfl ?_) (by omega)
  show dd_Rn (e + 15) m_X11_noBoy (6, [.ref 148, .int a1], [.int (I 149 1), .int 0, .int a1], sM Ln (dd_u I 148 (upd (I 148) 0 0)) L c s) _
  refine dd_Rn.sub 2 (pc := 8) (ls := [.ref 148, .int a1]) (st := [.int ((I 149 1) - 1), .int 0, .int a1]) (M := sM Ln (dd_u I 148 (upd (I 148) 0 0)) L c s) (x := m_X11_in) (as := [.int a1, .int 0, .int ((I 149 1) - 1)]) (rest := []) rfl rfl rfl rfl ?_
  show dd_Rn (e + 14) m_X11_in (0, [.int a1, .int 0, .int ((I 149 1) - 1)], [], sM Ln (dd_u I 148 (upd (I 148) 0 0)) L c s) _
  refine dd_Rn.ite 2 (c := a1 < 0) (A := (14, [.int a1, .int 0, .int ((I 149 1) - 1)], [], sM Ln (dd_u I 148 (upd (I 148) 0 0)) L c s)) (B := (5, [.int a1, .int 0, .int ((I 149 1) - 1)], [], sM Ln (dd_u I 148 (upd (I 148) 0 0)) L c s)) rfl (fun hc => ?_) (fun hc => ?_) (by omega)
  · have h := h.1 hc
    refine dd_Rn.retK 1 (pc := 15) (ls := [.int a1, .int 0, .int ((I 149 1) - 1)]) (st := [.int 0]) (M := sM Ln (dd_u I 148 (upd (I 148) 0 0)) L c s) (o := (none, .int 0, sM Ln (dd_u I 148 (upd (I 148) 0 0)) L c s)) rfl rfl (dd_Af.ret rfl ?_) (by omega)
    show dd_Rn (e + 15) m_X11_noBoy (11, [.ref 148, .int a1], [.int 0], sM Ln (dd_u I 148 (upd (I 148) 0 0)) L c s) _
    refine dd_Rn.retK 3 (pc := 19) (ls := [.ref 148, .int a1]) (st := [.int 1]) (M := sM Ln (dd_u I 148 (upd (I 148) 0 0)) L c s) (o := (none, .int 1, sM Ln (dd_u I 148 (upd (I 148) 0 0)) L c s)) rfl rfl (dd_Af.ret rfl ?_) (by omega)
    show dd_Rn (e + 16) m_X11_rests (11, [.ref 148, .int a1, .null, .null, .null, .null], [.int 1, .ref 148], sM Ln (dd_u I 148 (upd (I 148) 0 0)) L c s) _
    refine dd_Rn.sub 1 (pc := 12) (ls := [.ref 148, .int a1, .null, .null, .null, .null]) (st := [.int 1, .int 1, .ref 148]) (M := sM Ln (dd_u I 148 (upd (I 148) 0 0)) L c s) (x := m_X11_throwsIf) (as := [.ref 148, .int 1, .int 1]) (rest := []) rfl rfl rfl rfl ?_
    show dd_Rn (e + 15) m_X11_throwsIf (0, [.ref 148, .int 1, .int 1], [], sM Ln (dd_u I 148 (upd (I 148) 0 0)) L c s) _
    refine dd_Rn.retK 6 (pc := 10) (ls := [.ref 148, .int 1, .int 1]) (st := [.int 1]) (M := sM Ln (dd_u (dd_u I 148 (upd (I 148) 0 0)) 148 (upd (upd (I 148) 0 0) 0 1)) L c s) (o := (none, .int 1, sM Ln (dd_u (dd_u I 148 (upd (I 148) 0 0)) 148 (upd (upd (I 148) 0 0) 0 1)) L c s)) rfl rfl (dd_Af.ret rfl ?_) (by omega)
    show dd_Rn (e + 16) m_X11_rests (15, [.ref 148, .int a1, .null, .null, .null, .null], [.int 1], sM Ln (dd_u (dd_u I 148 (upd (I 148) 0 0)) 148 (upd (upd (I 148) 0 0) 0 1)) L c s) _
    exact dd_Rn.retK 2 (pc := 19) (ls := [.ref 148, .int a1, .null, .null, .null, .null]) (st := [.int 0]) (M := sM Ln (dd_u (dd_u I 148 (upd (I 148) 0 0)) 148 (upd (upd (I 148) 0 0) 0 1)) L c s) (o := (none, .int 0, sM Ln (dd_u (dd_u I 148 (upd (I 148) 0 0)) 148 (upd (upd (I 148) 0 0) 0 1)) L c s)) rfl rfl h (by omega)
  · have h := h.2 hc
    refine dd_Rn.ite 2 (c := (I 149 1) - 1 < a1) (A := (14, [.int a1, .int 0, .int ((I 149 1) - 1)], [], sM Ln (dd_u I 148 (upd (I 148) 0 0)) L c s)) (B := (10, [.int a1, .int 0, .int ((I 149 1) - 1)], [], sM Ln (dd_u I 148 (upd (I 148) 0 0)) L c s)) rfl (fun hc => ?_) (fun hc => ?_) (by omega)
    · have h := h.1 hc
      refine dd_Rn.retK 1 (pc := 15) (ls := [.int a1, .int 0, .int ((I 149 1) - 1)]) (st := [.int 0]) (M := sM Ln (dd_u I 148 (upd (I 148) 0 0)) L c s) (o := (none, .int 0, sM Ln (dd_u I 148 (upd (I 148) 0 0)) L c s)) rfl rfl (dd_Af.ret rfl ?_) (by omega)
      show dd_Rn (e + 15) m_X11_noBoy (11, [.ref 148, .int a1], [.int 0], sM Ln (dd_u I 148 (upd (I 148) 0 0)) L c s) _
      refine dd_Rn.retK 3 (pc := 19) (ls := [.ref 148, .int a1]) (st := [.int 1]) (M := sM Ln (dd_u I 148 (upd (I 148) 0 0)) L c s) (o := (none, .int 1, sM Ln (dd_u I 148 (upd (I 148) 0 0)) L c s)) rfl rfl (dd_Af.ret rfl ?_) (by omega)
      show dd_Rn (e + 16) m_X11_rests (11, [.ref 148, .int a1, .null, .null, .null, .null], [.int 1, .ref 148], sM Ln (dd_u I 148 (upd (I 148) 0 0)) L c s) _
      refine dd_Rn.sub 1 (pc := 12) (ls := [.ref 148, .int a1, .null, .null, .null, .null]) (st := [.int 1, .int 1, .ref 148]) (M := sM Ln (dd_u I 148 (upd (I 148) 0 0)) L c s) (x := m_X11_throwsIf) (as := [.ref 148, .int 1, .int 1]) (rest := []) rfl rfl rfl rfl ?_
      show dd_Rn (e + 15) m_X11_throwsIf (0, [.ref 148, .int 1, .int 1], [], sM Ln (dd_u I 148 (upd (I 148) 0 0)) L c s) _
      refine dd_Rn.retK 6 (pc := 10) (ls := [.ref 148, .int 1, .int 1]) (st := [.int 1]) (M := sM Ln (dd_u (dd_u I 148 (upd (I 148) 0 0)) 148 (upd (upd (I 148) 0 0) 0 1)) L c s) (o := (none, .int 1, sM Ln (dd_u (dd_u I 148 (upd (I 148) 0 0)) 148 (upd (upd (I 148) 0 0) 0 1)) L c s)) rfl rfl (dd_Af.ret rfl ?_) (by omega)
      show dd_Rn (e + 16) m_X11_rests (15, [.ref 148, .int a1, .null, .null, .null, .null], [.int 1], sM Ln (dd_u (dd_u I 148 (upd (I 148) 0 0)) 148 (upd (upd (I 148) 0 0) 0 1)) L c s) _
      exact dd_Rn.retK 2 (pc := 19) (ls := [.ref 148, .int a1, .null, .null, .null, .null]) (st := [.int 0]) (M := sM Ln (dd_u (dd_u I 148 (upd (I 148) 0 0)) 148 (upd (upd (I 148) 0 0) 0 1)) L c s) (o := (none, .int 0, sM Ln (dd_u (dd_u I 148 (upd (I 148) 0 0)) 148 (upd (upd (I 148) 0 0) 0 1)) L c s)) rfl rfl h (by omega)
    · have h := h.2 hc
      refine dd_Rn.retK 2 (pc := 15) (ls := [.int a1, .int 0, .int ((I 149 1) - 1)]) (st := [.int 1]) (M := sM Ln (dd_u I 148 (upd (I 148) 0 0)) L c s) (o := (none, .int 1, sM Ln (dd_u I 148 (upd (I 148) 0 0)) L c s)) rfl rfl (dd_Af.ret rfl ?_) (by omega)
      show dd_Rn (e + 15) m_X11_noBoy (11, [.ref 148, .int a1], [.int 1], sM Ln (dd_u I 148 (upd (I 148) 0 0)) L c s) _
      refine dd_Rn.retK 2 (pc := 19) (ls := [.ref 148, .int a1]) (st := [.int 0]) (M := sM Ln (dd_u I 148 (upd (I 148) 0 0)) L c s) (o := (none, .int 0, sM Ln (dd_u I 148 (upd (I 148) 0 0)) L c s)) rfl rfl (dd_Af.ret rfl ?_) (by omega)
      show dd_Rn (e + 16) m_X11_rests (11, [.ref 148, .int a1, .null, .null, .null, .null], [.int 0, .ref 148], sM Ln (dd_u I 148 (upd (I 148) 0 0)) L c s) _
      refine dd_Rn.sub 1 (pc := 12) (ls := [.ref 148, .int a1, .null, .null, .null, .null]) (st := [.int 1, .int 0, .ref 148]) (M := sM Ln (dd_u I 148 (upd (I 148) 0 0)) L c s) (x := m_X11_throwsIf) (as := [.ref 148, .int 0, .int 1]) (rest := []) rfl rfl rfl rfl ?_
      show dd_Rn (e + 15) m_X11_throwsIf (0, [.ref 148, .int 0, .int 1], [], sM Ln (dd_u I 148 (upd (I 148) 0 0)) L c s) _
      refine dd_Rn.retK 3 (pc := 10) (ls := [.ref 148, .int 0, .int 1]) (st := [.int 0]) (M := sM Ln (dd_u I 148 (upd (I 148) 0 0)) L c s) (o := (none, .int 0, sM Ln (dd_u I 148 (upd (I 148) 0 0)) L c s)) rfl rfl (dd_Af.ret rfl ?_) (by omega)
      show dd_Rn (e + 16) m_X11_rests (15, [.ref 148, .int a1, .null, .null, .null, .null], [.int 0], sM Ln (dd_u I 148 (upd (I 148) 0 0)) L c s) _
      refine dd_Rn.sub 3 (pc := 22) (ls := [.ref 148, .int a1, .null, .null, .null, .null]) (st := [.int a1, .ref 148]) (M := sM Ln (dd_u I 148 (upd (I 148) 0 0)) L c s) (x := m_X11_isIn) (as := [.ref 148, .int a1]) (rest := []) rfl rfl rfl rfl ?_
      show dd_Rn (e + 15) m_X11_isIn (0, [.ref 148, .int a1], [], sM Ln (dd_u I 148 (upd (I 148) 0 0)) L c s) _
      refine dd_Rn.sub 3 (pc := 3) (ls := [.ref 148, .int a1]) (st := [.int 3, .int a1, .ref 148]) (M := sM Ln (dd_u I 148 (upd (I 148) 0 0)) L c s) (x := m_X11_of) (as := [.ref 148, .int a1, .int 3]) (rest := []) rfl rfl rfl rfl ?_
      show dd_Rn (e + 14) m_X11_of (0, [.ref 148, .int a1, .int 3], [], sM Ln (dd_u I 148 (upd (I 148) 0 0)) L c s) _
      refine dd_Rn.sub 4 (pc := 6) (ls := [.ref 148, .int a1, .int 3]) (st := [.int 3, .int a1, .ref 149]) (M := sM Ln (dd_u I 148 (upd (I 148) 0 0)) L c s) (x := m_X11_at) (as := [.int a1, .int 3]) (rest := [.ref 149]) rfl rfl rfl rfl ?_
      show dd_Rn (e + 13) m_X11_at (0, [.int a1, .int 3], [], sM Ln (dd_u I 148 (upd (I 148) 0 0)) L c s) _
      refine dd_Rn.retK 7 (pc := 9) (ls := [.int a1, .int 3]) (st := [.int (((187 : Int32) + ((5 : Int32) * a1)) + 3)]) (M := sM Ln (dd_u I 148 (upd (I 148) 0 0)) L c s) (o := (none, .int (((187 : Int32) + ((5 : Int32) * a1)) + 3), sM Ln (dd_u I 148 (upd (I 148) 0 0)) L c s)) rfl rfl (dd_Af.ret rfl ?_) (by omega)
      show dd_Rn (e + 14) m_X11_of (9, [.ref 148, .int a1, .int 3], [.int (((187 : Int32) + ((5 : Int32) * a1)) + 3), .ref 149], sM Ln (dd_u I 148 (upd (I 148) 0 0)) L c s) _
      obtain ⟨hc, h⟩ := h
      refine dd_Rn.ci (fun j0 => (9, [.ref 148, .int a1, .int 3], [.int j0, .ref 149], sM Ln (dd_u I 148 (upd (I 148) 0 0)) L c s)) (fun j0 => (10, [.ref 148, .int a1, .int 3], [.int (I 149 (tn j0))], sM Ln (dd_u I 148 (upd (I 148) 0 0)) L c s)) (fun j0 => 0 ≤ j0 ∧ tn j0 < 2220) (((187 : Int32) + ((5 : Int32) * a1)) + 3) (fun j0 hc h => dd_Rn.chk 0 (c := 0 ≤ j0 ∧ tn j0 < 2220) (A := (10, [.ref 148, .int a1, .int 3], [.int (I 149 (tn j0))], sM Ln (dd_u I 148 (upd (I 148) 0 0)) L c s)) rfl hc h (by omega)) hc ?_
      refine dd_Rn.se (cf := (10, [.ref 148, .int a1, .int 3], [.int (I 149 (tn (((187 : Int32) + ((5 : Int32) * a1)) + 3)))], sM Ln (dd_u I 148 (upd (I 148) 0 0)) L c s)) ?_
      refine dd_Rn.retK 0 (pc := 10) (ls := [.ref 148, .int a1, .int 3]) (st := [.int (I 149 (tn (((187 : Int32) + ((5 : Int32) * a1)) + 3)))]) (M := sM Ln (dd_u I 148 (upd (I 148) 0 0)) L c s) (o := (none, .int (I 149 (tn (((187 : Int32) + ((5 : Int32) * a1)) + 3))), sM Ln (dd_u I 148 (upd (I 148) 0 0)) L c s)) rfl rfl (dd_Af.ret rfl ?_) (by omega)
      show dd_Rn (e + 15) m_X11_isIn (6, [.ref 148, .int a1], [.int (I 149 (tn (((187 : Int32) + ((5 : Int32) * a1)) + 3)))], sM Ln (dd_u I 148 (upd (I 148) 0 0)) L c s) _
      refine dd_Rn.ite 1 (c := I 149 (tn (((187 : Int32) + ((5 : Int32) * a1)) + 3)) = 1) (A := (10, [.ref 148, .int a1], [], sM Ln (dd_u I 148 (upd (I 148) 0 0)) L c s)) (B := (14, [.ref 148, .int a1], [], sM Ln (dd_u I 148 (upd (I 148) 0 0)) L c s)) rfl (fun hc => ?_) (fun hc => ?_) (by omega)
      · have h := h.1 hc
        refine dd_Rn.retK 2 (pc := 15) (ls := [.ref 148, .int a1]) (st := [.int 1]) (M := sM Ln (dd_u I 148 (upd (I 148) 0 0)) L c s) (o := (none, .int 1, sM Ln (dd_u I 148 (upd (I 148) 0 0)) L c s)) rfl rfl (dd_Af.ret rfl ?_) (by omega)
        show dd_Rn (e + 16) m_X11_rests (25, [.ref 148, .int a1, .null, .null, .null, .null], [.int 1], sM Ln (dd_u I 148 (upd (I 148) 0 0)) L c s) _
        exact dd_Rn.retK 2 (pc := 29) (ls := [.ref 148, .int a1, .null, .null, .null, .null]) (st := [.int (-1)]) (M := sM Ln (dd_u I 148 (upd (I 148) 0 0)) L c s) (o := (none, .int (-1), sM Ln (dd_u I 148 (upd (I 148) 0 0)) L c s)) rfl rfl h (by omega)
      · have h := h.2 hc
        refine dd_Rn.retK 1 (pc := 15) (ls := [.ref 148, .int a1]) (st := [.int 0]) (M := sM Ln (dd_u I 148 (upd (I 148) 0 0)) L c s) (o := (none, .int 0, sM Ln (dd_u I 148 (upd (I 148) 0 0)) L c s)) rfl rfl (dd_Af.ret rfl ?_) (by omega)
        show dd_Rn (e + 16) m_X11_rests (25, [.ref 148, .int a1, .null, .null, .null, .null], [.int 0], sM Ln (dd_u I 148 (upd (I 148) 0 0)) L c s) _
        refine dd_Rn.sub 5 (pc := 34) (ls := [.ref 148, .int a1, .null, .null, .null, .null]) (st := [.int 0, .int a1, .ref 148, .ref 148]) (M := sM Ln (dd_u I 148 (upd (I 148) 0 0)) L c s) (x := m_X11_of) (as := [.ref 148, .int a1, .int 0]) (rest := [.ref 148]) rfl rfl rfl rfl ?_
        show dd_Rn (e + 15) m_X11_of (0, [.ref 148, .int a1, .int 0], [], sM Ln (dd_u I 148 (upd (I 148) 0 0)) L c s) _
        refine dd_Rn.sub 4 (pc := 6) (ls := [.ref 148, .int a1, .int 0]) (st := [.int 0, .int a1, .ref 149]) (M := sM Ln (dd_u I 148 (upd (I 148) 0 0)) L c s) (x := m_X11_at) (as := [.int a1, .int 0]) (rest := [.ref 149]) rfl rfl rfl rfl ?_
        show dd_Rn (e + 14) m_X11_at (0, [.int a1, .int 0], [], sM Ln (dd_u I 148 (upd (I 148) 0 0)) L c s) _
        refine dd_Rn.retK 7 (pc := 9) (ls := [.int a1, .int 0]) (st := [.int (((187 : Int32) + ((5 : Int32) * a1)) + 0)]) (M := sM Ln (dd_u I 148 (upd (I 148) 0 0)) L c s) (o := (none, .int (((187 : Int32) + ((5 : Int32) * a1)) + 0), sM Ln (dd_u I 148 (upd (I 148) 0 0)) L c s)) rfl rfl (dd_Af.ret rfl ?_) (by omega)
        show dd_Rn (e + 15) m_X11_of (9, [.ref 148, .int a1, .int 0], [.int (((187 : Int32) + ((5 : Int32) * a1)) + 0), .ref 149], sM Ln (dd_u I 148 (upd (I 148) 0 0)) L c s) _
        obtain ⟨hc, h⟩ := h
        refine dd_Rn.ci (fun j0 => (9, [.ref 148, .int a1, .int 0], [.int j0, .ref 149], sM Ln (dd_u I 148 (upd (I 148) 0 0)) L c s)) (fun j0 => (10, [.ref 148, .int a1, .int 0], [.int (I 149 (tn j0))], sM Ln (dd_u I 148 (upd (I 148) 0 0)) L c s)) (fun j0 => 0 ≤ j0 ∧ tn j0 < 2220) (((187 : Int32) + ((5 : Int32) * a1)) + 0) (fun j0 hc h => dd_Rn.chk 0 (c := 0 ≤ j0 ∧ tn j0 < 2220) (A := (10, [.ref 148, .int a1, .int 0], [.int (I 149 (tn j0))], sM Ln (dd_u I 148 (upd (I 148) 0 0)) L c s)) rfl hc h (by omega)) hc ?_
        refine dd_Rn.se (cf := (10, [.ref 148, .int a1, .int 0], [.int (I 149 (tn (((187 : Int32) + ((5 : Int32) * a1)) + 0)))], sM Ln (dd_u I 148 (upd (I 148) 0 0)) L c s)) ?_
        refine dd_Rn.retK 0 (pc := 10) (ls := [.ref 148, .int a1, .int 0]) (st := [.int (I 149 (tn (((187 : Int32) + ((5 : Int32) * a1)) + 0)))]) (M := sM Ln (dd_u I 148 (upd (I 148) 0 0)) L c s) (o := (none, .int (I 149 (tn (((187 : Int32) + ((5 : Int32) * a1)) + 0))), sM Ln (dd_u I 148 (upd (I 148) 0 0)) L c s)) rfl rfl (dd_Af.ret rfl ?_) (by omega)
        show dd_Rn (e + 16) m_X11_rests (37, [.ref 148, .int a1, .null, .null, .null, .null], [.int (I 149 (tn (((187 : Int32) + ((5 : Int32) * a1)) + 0))), .ref 148], sM Ln (dd_u I 148 (upd (I 148) 0 0)) L c s) _
        refine dd_Rn.cI 0 (pc := 37) (ls := [.ref 148, .int a1, .null, .null, .null, .null]) (st := [.int (I 149 (tn (((187 : Int32) + ((5 : Int32) * a1)) + 0))), .ref 148]) (x := m_X11_nearOf) (as := [.ref 148, .int (I 149 (tn (((187 : Int32) + ((5 : Int32) * a1)) + 0)))]) (rest := []) rfl rfl rfl rfl h ?_
        intro x1 I1 L1 h
        show dd_Rn (e + 16) m_X11_rests (40, [.ref 148, .int a1, .null, .null, .null, .null], [.int x1], sM Ln I1 L1 c s) _
        exact dd_Rn.go 5 (cf' := (46, [.ref 148, .int a1, .int x1, .int 0, .int 0, .null], [], sM Ln I1 L1 c s)) rfl h (by omega)

theorem w_X11_rests_46 {Ln d c s : Nat} {I : Nat → Nat → Int32} {L : Nat → Nat → Int64} {Q : dd_O → Prop} {a1 a2 a3 a4 : Int32} {a5 : Value} (hd : 28 ≤ d) (h : (((2 : Int32) ≤ a4 → Q (none, .int a3, sM Ln I L c s)) ∧ (¬ ((2 : Int32) ≤ a4) → dd_Rn d m_X11_rests (55, [.ref 148, .int a1, .int a2, .int a3, .int a4, .int 0], [], sM Ln I L c s) Q))) : dd_Rn d m_X11_rests (46, [.ref 148, .int a1, .int a2, .int a3, .int a4, a5], [], sM Ln I L c s) Q := by
  obtain ⟨e, rfl⟩ : ∃ e, d = e + 16 := ⟨d - 16, by omega⟩
  refine dd_Rn.ite 2 (c := (2 : Int32) ≤ a4) (A := (131, [.ref 148, .int a1, .int a2, .int a3, .int a4, a5], [], sM Ln I L c s)) (B := (52, [.ref 148, .int a1, .int a2, .int a3, .int a4, a5], [], sM Ln I L c s)) rfl (fun hc => ?_) (fun hc => ?_) (by omega)
  · have h := h.1 hc
    exact dd_Rn.retK 1 (pc := 132) (ls := [.ref 148, .int a1, .int a2, .int a3, .int a4, a5]) (st := [.int a3]) (M := sM Ln I L c s) (o := (none, .int a3, sM Ln I L c s)) rfl rfl h (by omega)
  · have h := h.2 hc
    exact dd_Rn.go 2 (cf' := (55, [.ref 148, .int a1, .int a2, .int a3, .int a4, .int 0], [], sM Ln I L c s)) rfl h (by omega)

theorem w_X11_rests_55 {Ln d c s : Nat} {I : Nat → Nat → Int32} {L : Nat → Nat → Int64} {Q : dd_O → Prop} {a1 a2 a3 a4 a5 : Int32} (hd : 28 ≤ d) (h : (((2 : Int32) ≤ a5 → dd_Rn d m_X11_rests (46, [.ref 148, .int a1, .int a2, .int a3, .int (a4 + 1), .int a5], [], sM Ln I L c s) Q) ∧ (¬ ((2 : Int32) ≤ a5) → ((a4 = 1 → (((1 : Int32) - a4 = 1 → (((1 : Int32) - a5 < (1 : Int32) - a5 → dd_Rn d m_X11_rests (116, [.ref 148, .int a1, .int a2, .int a3, .int a4, .int a5], [.int a3], sM Ln I L c s) Q) ∧ (¬ ((1 : Int32) - a5 < (1 : Int32) - a5) → ((a5 = 1 → (((1 : Int32) - a5 = 1 → dd_Rn d m_X11_rests (117, [.ref 148, .int a1, .int a2, .int a3, .int a4, .int a5], [.int ((1 : Int32) <<< ((((2 : Int32) * a4) + a5) &&& 31)), .int a3], sM Ln I L c s) Q) ∧ (¬ ((1 : Int32) - a5 = 1) → ((a4 = 0 → dd_Rn d m_X11_rests (116, [.ref 148, .int a1, .int a2, .int a3, .int a4, .int a5], [.int a3], sM Ln I L c s) Q) ∧ (¬ (a4 = 0) → dd_Rn d m_X11_rests (117, [.ref 148, .int a1, .int a2, .int a3, .int a4, .int a5], [.int ((1 : Int32) <<< ((((2 : Int32) * a4) + a5) &&& 31)), .int a3], sM Ln I L c s) Q))))) ∧ (¬ (a5 = 1) → ((a4 = 0 → (((1 : Int32) - a5 = 1 → dd_Rn d m_X11_rests (117, [.ref 148, .int a1, .int a2, .int a3, .int a4, .int a5], [.int ((1 : Int32) <<< ((((2 : Int32) * a4) + a5) &&& 31)), .int a3], sM Ln I L c s) Q) ∧ (¬ ((1 : Int32) - a5 = 1) → ((a4 = 0 → dd_Rn d m_X11_rests (117, [.ref 148, .int a1, .int a2, .int a3, .int a4, .int a5], [.int ((1 : Int32) <<< ((((2 : Int32) * a4) + a5) &&& 31)), .int a3], sM Ln I L c s) Q) ∧ (¬ (a4 = 0) → dd_Rn d m_X11_rests (117, [.ref 148, .int a1, .int a2, .int a3, .int a4, .int a5], [.int ((1 : Int32) <<< ((((2 : Int32) * a4) + a5) &&& 31)), .int a3], sM Ln I L c s) Q))))) ∧ (¬ (a4 = 0) → (((1 : Int32) - a5 = 1 → dd_Rn d m_X11_rests (116, [.ref 148, .int a1, .int a2, .int a3, .int a4, .int a5], [.int a3], sM Ln I L c s) Q) ∧ (¬ ((1 : Int32) - a5 = 1) → ((a4 = 0 → dd_Rn d m_X11_rests (116, [.ref 148, .int a1, .int a2, .int a3, .int a4, .int a5], [.int a3], sM Ln I L c s) Q) ∧ (¬ (a4 = 0) → dd_Rn d m_X11_rests (117, [.ref 148, .int a1, .int a2, .int a3, .int a4, .int a5], [.int ((1 : Int32) <<< ((((2 : Int32) * a4) + a5) &&& 31)), .int a3], sM Ln I L c s) Q))))))))))) ∧ (¬ ((1 : Int32) - a4 = 1) → ((a5 = 0 → (((1 : Int32) - a5 < (9 : Int32) - a2 → dd_Rn d m_X11_rests (116, [.ref 148, .int a1, .int a2, .int a3, .int a4, .int a5], [.int a3], sM Ln I L c s) Q) ∧ (¬ ((1 : Int32) - a5 < (9 : Int32) - a2) → ((a5 = 1 → (((1 : Int32) - a5 = 1 → dd_Rn d m_X11_rests (117, [.ref 148, .int a1, .int a2, .int a3, .int a4, .int a5], [.int ((1 : Int32) <<< ((((2 : Int32) * a4) + a5) &&& 31)), .int a3], sM Ln I L c s) Q) ∧ (¬ ((1 : Int32) - a5 = 1) → ((a4 = 0 → dd_Rn d m_X11_rests (116, [.ref 148, .int a1, .int a2, .int a3, .int a4, .int a5], [.int a3], sM Ln I L c s) Q) ∧ (¬ (a4 = 0) → dd_Rn d m_X11_rests (117, [.ref 148, .int a1, .int a2, .int a3, .int a4, .int a5], [.int ((1 : Int32) <<< ((((2 : Int32) * a4) + a5) &&& 31)), .int a3], sM Ln I L c s) Q))))) ∧ (¬ (a5 = 1) → ((a4 = 0 → (((1 : Int32) - a5 = 1 → dd_Rn d m_X11_rests (117, [.ref 148, .int a1, .int a2, .int a3, .int a4, .int a5], [.int ((1 : Int32) <<< ((((2 : Int32) * a4) + a5) &&& 31)), .int a3], sM Ln I L c s) Q) ∧ (¬ ((1 : Int32) - a5 = 1) → ((a4 = 0 → dd_Rn d m_X11_rests (117, [.ref 148, .int a1, .int a2, .int a3, .int a4, .int a5], [.int ((1 : Int32) <<< ((((2 : Int32) * a4) + a5) &&& 31)), .int a3], sM Ln I L c s) Q) ∧ (¬ (a4 = 0) → dd_Rn d m_X11_rests (117, [.ref 148, .int a1, .int a2, .int a3, .int a4, .int a5], [.int ((1 : Int32) <<< ((((2 : Int32) * a4) + a5) &&& 31)), .int a3], sM Ln I L c s) Q))))) ∧ (¬ (a4 = 0) → (((1 : Int32) - a5 = 1 → dd_Rn d m_X11_rests (116, [.ref 148, .int a1, .int a2, .int a3, .int a4, .int a5], [.int a3], sM Ln I L c s) Q) ∧ (¬ ((1 : Int32) - a5 = 1) → ((a4 = 0 → dd_Rn d m_X11_rests (116, [.ref 148, .int a1, .int a2, .int a3, .int a4, .int a5], [.int a3], sM Ln I L c s) Q) ∧ (¬ (a4 = 0) → dd_Rn d m_X11_rests (117, [.ref 148, .int a1, .int a2, .int a3, .int a4, .int a5], [.int ((1 : Int32) <<< ((((2 : Int32) * a4) + a5) &&& 31)), .int a3], sM Ln I L c s) Q))))))))))) ∧ (¬ (a5 = 0) → (((1 : Int32) - a5 < (-3) → dd_Rn d m_X11_rests (116, [.ref 148, .int a1, .int a2, .int a3, .int a4, .int a5], [.int a3], sM Ln I L c s) Q) ∧ (¬ ((1 : Int32) - a5 < (-3)) → ((a5 = 1 → (((1 : Int32) - a5 = 1 → dd_Rn d m_X11_rests (117, [.ref 148, .int a1, .int a2, .int a3, .int a4, .int a5], [.int ((1 : Int32) <<< ((((2 : Int32) * a4) + a5) &&& 31)), .int a3], sM Ln I L c s) Q) ∧ (¬ ((1 : Int32) - a5 = 1) → ((a4 = 0 → dd_Rn d m_X11_rests (116, [.ref 148, .int a1, .int a2, .int a3, .int a4, .int a5], [.int a3], sM Ln I L c s) Q) ∧ (¬ (a4 = 0) → dd_Rn d m_X11_rests (117, [.ref 148, .int a1, .int a2, .int a3, .int a4, .int a5], [.int ((1 : Int32) <<< ((((2 : Int32) * a4) + a5) &&& 31)), .int a3], sM Ln I L c s) Q))))) ∧ (¬ (a5 = 1) → ((a4 = 0 → (((1 : Int32) - a5 = 1 → dd_Rn d m_X11_rests (117, [.ref 148, .int a1, .int a2, .int a3, .int a4, .int a5], [.int ((1 : Int32) <<< ((((2 : Int32) * a4) + a5) &&& 31)), .int a3], sM Ln I L c s) Q) ∧ (¬ ((1 : Int32) - a5 = 1) → ((a4 = 0 → dd_Rn d m_X11_rests (117, [.ref 148, .int a1, .int a2, .int a3, .int a4, .int a5], [.int ((1 : Int32) <<< ((((2 : Int32) * a4) + a5) &&& 31)), .int a3], sM Ln I L c s) Q) ∧ (¬ (a4 = 0) → dd_Rn d m_X11_rests (117, [.ref 148, .int a1, .int a2, .int a3, .int a4, .int a5], [.int ((1 : Int32) <<< ((((2 : Int32) * a4) + a5) &&& 31)), .int a3], sM Ln I L c s) Q))))) ∧ (¬ (a4 = 0) → (((1 : Int32) - a5 = 1 → dd_Rn d m_X11_rests (116, [.ref 148, .int a1, .int a2, .int a3, .int a4, .int a5], [.int a3], sM Ln I L c s) Q) ∧ (¬ ((1 : Int32) - a5 = 1) → ((a4 = 0 → dd_Rn d m_X11_rests (116, [.ref 148, .int a1, .int a2, .int a3, .int a4, .int a5], [.int a3], sM Ln I L c s) Q) ∧ (¬ (a4 = 0) → dd_Rn d m_X11_rests (117, [.ref 148, .int a1, .int a2, .int a3, .int a4, .int a5], [.int ((1 : Int32) <<< ((((2 : Int32) * a4) + a5) &&& 31)), .int a3], sM Ln I L c s) Q))))))))))))))) ∧ (¬ (a4 = 1) → ((a5 = 0 → (((1 : Int32) - a4 = 1 → (((9 : Int32) - a2 < (1 : Int32) - a5 → dd_Rn d m_X11_rests (116, [.ref 148, .int a1, .int a2, .int a3, .int a4, .int a5], [.int a3], sM Ln I L c s) Q) ∧ (¬ ((9 : Int32) - a2 < (1 : Int32) - a5) → ((a5 = 1 → (((1 : Int32) - a5 = 1 → dd_Rn d m_X11_rests (117, [.ref 148, .int a1, .int a2, .int a3, .int a4, .int a5], [.int ((1 : Int32) <<< ((((2 : Int32) * a4) + a5) &&& 31)), .int a3], sM Ln I L c s) Q) ∧ (¬ ((1 : Int32) - a5 = 1) → ((a4 = 0 → dd_Rn d m_X11_rests (116, [.ref 148, .int a1, .int a2, .int a3, .int a4, .int a5], [.int a3], sM Ln I L c s) Q) ∧ (¬ (a4 = 0) → dd_Rn d m_X11_rests (117, [.ref 148, .int a1, .int a2, .int a3, .int a4, .int a5], [.int ((1 : Int32) <<< ((((2 : Int32) * a4) + a5) &&& 31)), .int a3], sM Ln I L c s) Q))))) ∧ (¬ (a5 = 1) → ((a4 = 0 → (((1 : Int32) - a5 = 1 → dd_Rn d m_X11_rests (117, [.ref 148, .int a1, .int a2, .int a3, .int a4, .int a5], [.int ((1 : Int32) <<< ((((2 : Int32) * a4) + a5) &&& 31)), .int a3], sM Ln I L c s) Q) ∧ (¬ ((1 : Int32) - a5 = 1) → ((a4 = 0 → dd_Rn d m_X11_rests (117, [.ref 148, .int a1, .int a2, .int a3, .int a4, .int a5], [.int ((1 : Int32) <<< ((((2 : Int32) * a4) + a5) &&& 31)), .int a3], sM Ln I L c s) Q) ∧ (¬ (a4 = 0) → dd_Rn d m_X11_rests (117, [.ref 148, .int a1, .int a2, .int a3, .int a4, .int a5], [.int ((1 : Int32) <<< ((((2 : Int32) * a4) + a5) &&& 31)), .int a3], sM Ln I L c s) Q))))) ∧ (¬ (a4 = 0) → (((1 : Int32) - a5 = 1 → dd_Rn d m_X11_rests (116, [.ref 148, .int a1, .int a2, .int a3, .int a4, .int a5], [.int a3], sM Ln I L c s) Q) ∧ (¬ ((1 : Int32) - a5 = 1) → ((a4 = 0 → dd_Rn d m_X11_rests (116, [.ref 148, .int a1, .int a2, .int a3, .int a4, .int a5], [.int a3], sM Ln I L c s) Q) ∧ (¬ (a4 = 0) → dd_Rn d m_X11_rests (117, [.ref 148, .int a1, .int a2, .int a3, .int a4, .int a5], [.int ((1 : Int32) <<< ((((2 : Int32) * a4) + a5) &&& 31)), .int a3], sM Ln I L c s) Q))))))))))) ∧ (¬ ((1 : Int32) - a4 = 1) → ((a5 = 0 → (((9 : Int32) - a2 < (9 : Int32) - a2 → dd_Rn d m_X11_rests (116, [.ref 148, .int a1, .int a2, .int a3, .int a4, .int a5], [.int a3], sM Ln I L c s) Q) ∧ (¬ ((9 : Int32) - a2 < (9 : Int32) - a2) → ((a5 = 1 → (((1 : Int32) - a5 = 1 → dd_Rn d m_X11_rests (117, [.ref 148, .int a1, .int a2, .int a3, .int a4, .int a5], [.int ((1 : Int32) <<< ((((2 : Int32) * a4) + a5) &&& 31)), .int a3], sM Ln I L c s) Q) ∧ (¬ ((1 : Int32) - a5 = 1) → ((a4 = 0 → dd_Rn d m_X11_rests (116, [.ref 148, .int a1, .int a2, .int a3, .int a4, .int a5], [.int a3], sM Ln I L c s) Q) ∧ (¬ (a4 = 0) → dd_Rn d m_X11_rests (117, [.ref 148, .int a1, .int a2, .int a3, .int a4, .int a5], [.int ((1 : Int32) <<< ((((2 : Int32) * a4) + a5) &&& 31)), .int a3], sM Ln I L c s) Q))))) ∧ (¬ (a5 = 1) → ((a4 = 0 → (((1 : Int32) - a5 = 1 → dd_Rn d m_X11_rests (117, [.ref 148, .int a1, .int a2, .int a3, .int a4, .int a5], [.int ((1 : Int32) <<< ((((2 : Int32) * a4) + a5) &&& 31)), .int a3], sM Ln I L c s) Q) ∧ (¬ ((1 : Int32) - a5 = 1) → ((a4 = 0 → dd_Rn d m_X11_rests (117, [.ref 148, .int a1, .int a2, .int a3, .int a4, .int a5], [.int ((1 : Int32) <<< ((((2 : Int32) * a4) + a5) &&& 31)), .int a3], sM Ln I L c s) Q) ∧ (¬ (a4 = 0) → dd_Rn d m_X11_rests (117, [.ref 148, .int a1, .int a2, .int a3, .int a4, .int a5], [.int ((1 : Int32) <<< ((((2 : Int32) * a4) + a5) &&& 31)), .int a3], sM Ln I L c s) Q))))) ∧ (¬ (a4 = 0) → (((1 : Int32) - a5 = 1 → dd_Rn d m_X11_rests (116, [.ref 148, .int a1, .int a2, .int a3, .int a4, .int a5], [.int a3], sM Ln I L c s) Q) ∧ (¬ ((1 : Int32) - a5 = 1) → ((a4 = 0 → dd_Rn d m_X11_rests (116, [.ref 148, .int a1, .int a2, .int a3, .int a4, .int a5], [.int a3], sM Ln I L c s) Q) ∧ (¬ (a4 = 0) → dd_Rn d m_X11_rests (117, [.ref 148, .int a1, .int a2, .int a3, .int a4, .int a5], [.int ((1 : Int32) <<< ((((2 : Int32) * a4) + a5) &&& 31)), .int a3], sM Ln I L c s) Q))))))))))) ∧ (¬ (a5 = 0) → (((9 : Int32) - a2 < (-3) → dd_Rn d m_X11_rests (116, [.ref 148, .int a1, .int a2, .int a3, .int a4, .int a5], [.int a3], sM Ln I L c s) Q) ∧ (¬ ((9 : Int32) - a2 < (-3)) → ((a5 = 1 → (((1 : Int32) - a5 = 1 → dd_Rn d m_X11_rests (117, [.ref 148, .int a1, .int a2, .int a3, .int a4, .int a5], [.int ((1 : Int32) <<< ((((2 : Int32) * a4) + a5) &&& 31)), .int a3], sM Ln I L c s) Q) ∧ (¬ ((1 : Int32) - a5 = 1) → ((a4 = 0 → dd_Rn d m_X11_rests (116, [.ref 148, .int a1, .int a2, .int a3, .int a4, .int a5], [.int a3], sM Ln I L c s) Q) ∧ (¬ (a4 = 0) → dd_Rn d m_X11_rests (117, [.ref 148, .int a1, .int a2, .int a3, .int a4, .int a5], [.int ((1 : Int32) <<< ((((2 : Int32) * a4) + a5) &&& 31)), .int a3], sM Ln I L c s) Q))))) ∧ (¬ (a5 = 1) → ((a4 = 0 → (((1 : Int32) - a5 = 1 → dd_Rn d m_X11_rests (117, [.ref 148, .int a1, .int a2, .int a3, .int a4, .int a5], [.int ((1 : Int32) <<< ((((2 : Int32) * a4) + a5) &&& 31)), .int a3], sM Ln I L c s) Q) ∧ (¬ ((1 : Int32) - a5 = 1) → ((a4 = 0 → dd_Rn d m_X11_rests (117, [.ref 148, .int a1, .int a2, .int a3, .int a4, .int a5], [.int ((1 : Int32) <<< ((((2 : Int32) * a4) + a5) &&& 31)), .int a3], sM Ln I L c s) Q) ∧ (¬ (a4 = 0) → dd_Rn d m_X11_rests (117, [.ref 148, .int a1, .int a2, .int a3, .int a4, .int a5], [.int ((1 : Int32) <<< ((((2 : Int32) * a4) + a5) &&& 31)), .int a3], sM Ln I L c s) Q))))) ∧ (¬ (a4 = 0) → (((1 : Int32) - a5 = 1 → dd_Rn d m_X11_rests (116, [.ref 148, .int a1, .int a2, .int a3, .int a4, .int a5], [.int a3], sM Ln I L c s) Q) ∧ (¬ ((1 : Int32) - a5 = 1) → ((a4 = 0 → dd_Rn d m_X11_rests (116, [.ref 148, .int a1, .int a2, .int a3, .int a4, .int a5], [.int a3], sM Ln I L c s) Q) ∧ (¬ (a4 = 0) → dd_Rn d m_X11_rests (117, [.ref 148, .int a1, .int a2, .int a3, .int a4, .int a5], [.int ((1 : Int32) <<< ((((2 : Int32) * a4) + a5) &&& 31)), .int a3], sM Ln I L c s) Q))))))))))))))) ∧ (¬ (a5 = 0) → (((1 : Int32) - a4 = 1 → (((-3 : Int32) < (1 : Int32) - a5 → dd_Rn d m_X11_rests (116, [.ref 148, .int a1, .int a2, .int a3, .int a4, .int a5], [.int a3], sM Ln I L c s) Q) ∧ (¬ ((-3 : Int32) < (1 : Int32) - a5) → ((a5 = 1 → (((1 : Int32) - a5 = 1 → dd_Rn d m_X11_rests (117, [.ref 148, .int a1, .int a2, .int a3, .int a4, .int a5], [.int ((1 : Int32) <<< ((((2 : Int32) * a4) + a5) &&& 31)), .int a3], sM Ln I L c s) Q) ∧ (¬ ((1 : Int32) - a5 = 1) → ((a4 = 0 → dd_Rn d m_X11_rests (116, [.ref 148, .int a1, .int a2, .int a3, .int a4, .int a5], [.int a3], sM Ln I L c s) Q) ∧ (¬ (a4 = 0) → dd_Rn d m_X11_rests (117, [.ref 148, .int a1, .int a2, .int a3, .int a4, .int a5], [.int ((1 : Int32) <<< ((((2 : Int32) * a4) + a5) &&& 31)), .int a3], sM Ln I L c s) Q))))) ∧ (¬ (a5 = 1) → ((a4 = 0 → (((1 : Int32) - a5 = 1 → dd_Rn d m_X11_rests (117, [.ref 148, .int a1, .int a2, .int a3, .int a4, .int a5], [.int ((1 : Int32) <<< ((((2 : Int32) * a4) + a5) &&& 31)), .int a3], sM Ln I L c s) Q) ∧ (¬ ((1 : Int32) - a5 = 1) → ((a4 = 0 → dd_Rn d m_X11_rests (117, [.ref 148, .int a1, .int a2, .int a3, .int a4, .int a5], [.int ((1 : Int32) <<< ((((2 : Int32) * a4) + a5) &&& 31)), .int a3], sM Ln I L c s) Q) ∧ (¬ (a4 = 0) → dd_Rn d m_X11_rests (117, [.ref 148, .int a1, .int a2, .int a3, .int a4, .int a5], [.int ((1 : Int32) <<< ((((2 : Int32) * a4) + a5) &&& 31)), .int a3], sM Ln I L c s) Q))))) ∧ (¬ (a4 = 0) → (((1 : Int32) - a5 = 1 → dd_Rn d m_X11_rests (116, [.ref 148, .int a1, .int a2, .int a3, .int a4, .int a5], [.int a3], sM Ln I L c s) Q) ∧ (¬ ((1 : Int32) - a5 = 1) → ((a4 = 0 → dd_Rn d m_X11_rests (116, [.ref 148, .int a1, .int a2, .int a3, .int a4, .int a5], [.int a3], sM Ln I L c s) Q) ∧ (¬ (a4 = 0) → dd_Rn d m_X11_rests (117, [.ref 148, .int a1, .int a2, .int a3, .int a4, .int a5], [.int ((1 : Int32) <<< ((((2 : Int32) * a4) + a5) &&& 31)), .int a3], sM Ln I L c s) Q))))))))))) ∧ (¬ ((1 : Int32) - a4 = 1) → ((a5 = 0 → (((-3 : Int32) < (9 : Int32) - a2 → dd_Rn d m_X11_rests (116, [.ref 148, .int a1, .int a2, .int a3, .int a4, .int a5], [.int a3], sM Ln I L c s) Q) ∧ (¬ ((-3 : Int32) < (9 : Int32) - a2) → ((a5 = 1 → (((1 : Int32) - a5 = 1 → dd_Rn d m_X11_rests (117, [.ref 148, .int a1, .int a2, .int a3, .int a4, .int a5], [.int ((1 : Int32) <<< ((((2 : Int32) * a4) + a5) &&& 31)), .int a3], sM Ln I L c s) Q) ∧ (¬ ((1 : Int32) - a5 = 1) → ((a4 = 0 → dd_Rn d m_X11_rests (116, [.ref 148, .int a1, .int a2, .int a3, .int a4, .int a5], [.int a3], sM Ln I L c s) Q) ∧ (¬ (a4 = 0) → dd_Rn d m_X11_rests (117, [.ref 148, .int a1, .int a2, .int a3, .int a4, .int a5], [.int ((1 : Int32) <<< ((((2 : Int32) * a4) + a5) &&& 31)), .int a3], sM Ln I L c s) Q))))) ∧ (¬ (a5 = 1) → ((a4 = 0 → (((1 : Int32) - a5 = 1 → dd_Rn d m_X11_rests (117, [.ref 148, .int a1, .int a2, .int a3, .int a4, .int a5], [.int ((1 : Int32) <<< ((((2 : Int32) * a4) + a5) &&& 31)), .int a3], sM Ln I L c s) Q) ∧ (¬ ((1 : Int32) - a5 = 1) → ((a4 = 0 → dd_Rn d m_X11_rests (117, [.ref 148, .int a1, .int a2, .int a3, .int a4, .int a5], [.int ((1 : Int32) <<< ((((2 : Int32) * a4) + a5) &&& 31)), .int a3], sM Ln I L c s) Q) ∧ (¬ (a4 = 0) → dd_Rn d m_X11_rests (117, [.ref 148, .int a1, .int a2, .int a3, .int a4, .int a5], [.int ((1 : Int32) <<< ((((2 : Int32) * a4) + a5) &&& 31)), .int a3], sM Ln I L c s) Q))))) ∧ (¬ (a4 = 0) → (((1 : Int32) - a5 = 1 → dd_Rn d m_X11_rests (116, [.ref 148, .int a1, .int a2, .int a3, .int a4, .int a5], [.int a3], sM Ln I L c s) Q) ∧ (¬ ((1 : Int32) - a5 = 1) → ((a4 = 0 → dd_Rn d m_X11_rests (116, [.ref 148, .int a1, .int a2, .int a3, .int a4, .int a5], [.int a3], sM Ln I L c s) Q) ∧ (¬ (a4 = 0) → dd_Rn d m_X11_rests (117, [.ref 148, .int a1, .int a2, .int a3, .int a4, .int a5], [.int ((1 : Int32) <<< ((((2 : Int32) * a4) + a5) &&& 31)), .int a3], sM Ln I L c s) Q))))))))))) ∧ (¬ (a5 = 0) → ((a5 = 1 → (((1 : Int32) - a5 = 1 → dd_Rn d m_X11_rests (117, [.ref 148, .int a1, .int a2, .int a3, .int a4, .int a5], [.int ((1 : Int32) <<< ((((2 : Int32) * a4) + a5) &&& 31)), .int a3], sM Ln I L c s) Q) ∧ (¬ ((1 : Int32) - a5 = 1) → ((a4 = 0 → dd_Rn d m_X11_rests (116, [.ref 148, .int a1, .int a2, .int a3, .int a4, .int a5], [.int a3], sM Ln I L c s) Q) ∧ (¬ (a4 = 0) → dd_Rn d m_X11_rests (117, [.ref 148, .int a1, .int a2, .int a3, .int a4, .int a5], [.int ((1 : Int32) <<< ((((2 : Int32) * a4) + a5) &&& 31)), .int a3], sM Ln I L c s) Q))))) ∧ (¬ (a5 = 1) → ((a4 = 0 → (((1 : Int32) - a5 = 1 → dd_Rn d m_X11_rests (117, [.ref 148, .int a1, .int a2, .int a3, .int a4, .int a5], [.int ((1 : Int32) <<< ((((2 : Int32) * a4) + a5) &&& 31)), .int a3], sM Ln I L c s) Q) ∧ (¬ ((1 : Int32) - a5 = 1) → ((a4 = 0 → dd_Rn d m_X11_rests (117, [.ref 148, .int a1, .int a2, .int a3, .int a4, .int a5], [.int ((1 : Int32) <<< ((((2 : Int32) * a4) + a5) &&& 31)), .int a3], sM Ln I L c s) Q) ∧ (¬ (a4 = 0) → dd_Rn d m_X11_rests (117, [.ref 148, .int a1, .int a2, .int a3, .int a4, .int a5], [.int ((1 : Int32) <<< ((((2 : Int32) * a4) + a5) &&& 31)), .int a3], sM Ln I L c s) Q))))) ∧ (¬ (a4 = 0) → (((1 : Int32) - a5 = 1 → dd_Rn d m_X11_rests (116, [.ref 148, .int a1, .int a2, .int a3, .int a4, .int a5], [.int a3], sM Ln I L c s) Q) ∧ (¬ ((1 : Int32) - a5 = 1) → ((a4 = 0 → dd_Rn d m_X11_rests (116, [.ref 148, .int a1, .int a2, .int a3, .int a4, .int a5], [.int a3], sM Ln I L c s) Q) ∧ (¬ (a4 = 0) → dd_Rn d m_X11_rests (117, [.ref 148, .int a1, .int a2, .int a3, .int a4, .int a5], [.int ((1 : Int32) <<< ((((2 : Int32) * a4) + a5) &&& 31)), .int a3], sM Ln I L c s) Q))))))))))))))))))) : dd_Rn d m_X11_rests (55, [.ref 148, .int a1, .int a2, .int a3, .int a4, .int a5], [], sM Ln I L c s) Q := by
  obtain ⟨e, rfl⟩ : ∃ e, d = e + 16 := ⟨d - 16, by omega⟩
  refine dd_Rn.ite 2 (c := (2 : Int32) ≤ a5) (A := (125, [.ref 148, .int a1, .int a2, .int a3, .int a4, .int a5], [], sM Ln I L c s)) (B := (61, [.ref 148, .int a1, .int a2, .int a3, .int a4, .int a5], [], sM Ln I L c s)) rfl (fun hc => ?_) (fun hc => ?_) (by omega)
  · have h := h.1 hc
    exact dd_Rn.go 2 (cf' := (46, [.ref 148, .int a1, .int a2, .int a3, .int (a4 + 1), .int a5], [], sM Ln I L c s)) rfl h (by omega)
  · have h := h.2 hc
    refine dd_Rn.sub 5 (pc := 68) (ls := [.ref 148, .int a1, .int a2, .int a3, .int a4, .int a5]) (st := [.int a5, .int a4, .int a2, .ref 148, .int a3]) (M := sM Ln I L c s) (x := m_X11_boyHas) (as := [.ref 148, .int a2, .int a4, .int a5]) (rest := [.int a3]) rfl rfl rfl rfl ?_
    show dd_Rn (e + 15) m_X11_boyHas (0, [.ref 148, .int a2, .int a4, .int a5], [], sM Ln I L c s) _
    refine dd_Rn.ite 2 (c := a4 = 1) (A := (5, [.ref 148, .int a2, .int a4, .int a5], [], sM Ln I L c s)) (B := (9, [.ref 148, .int a2, .int a4, .int a5], [], sM Ln I L c s)) rfl (fun hc => ?_) (fun hc => ?_) (by omega)
    · have h := h.1 hc
      refine dd_Rn.retK 3 (pc := 8) (ls := [.ref 148, .int a2, .int a4, .int a5]) (st := [.int ((1 : Int32) - a5)]) (M := sM Ln I L c s) (o := (none, .int ((1 : Int32) - a5), sM Ln I L c s)) rfl rfl (dd_Af.ret rfl ?_) (by omega)
      show dd_Rn (e + 16) m_X11_rests (71, [.ref 148, .int a1, .int a2, .int a3, .int a4, .int a5], [.int ((1 : Int32) - a5), .int a3], sM Ln I L c s) _
      refine dd_Rn.sub 6 (pc := 79) (ls := [.ref 148, .int a1, .int a2, .int a3, .int a4, .int a5]) (st := [.int a5, .int ((1 : Int32) - a4), .int a2, .ref 148, .int ((1 : Int32) - a5), .int a3]) (M := sM Ln I L c s) (x := m_X11_boyHas) (as := [.ref 148, .int a2, .int ((1 : Int32) - a4), .int a5]) (rest := [.int ((1 : Int32) - a5), .int a3]) rfl rfl rfl rfl ?_
      show dd_Rn (e + 15) m_X11_boyHas (0, [.ref 148, .int a2, .int ((1 : Int32) - a4), .int a5], [], sM Ln I L c s) _
      refine dd_Rn.ite 2 (c := (1 : Int32) - a4 = 1) (A := (5, [.ref 148, .int a2, .int ((1 : Int32) - a4), .int a5], [], sM Ln I L c s)) (B := (9, [.ref 148, .int a2, .int ((1 : Int32) - a4), .int a5], [], sM Ln I L c s)) rfl (fun hc => ?_) (fun hc => ?_) (by omega)
      · have h := h.1 hc
        refine dd_Rn.retK 3 (pc := 8) (ls := [.ref 148, .int a2, .int ((1 : Int32) - a4), .int a5]) (st := [.int ((1 : Int32) - a5)]) (M := sM Ln I L c s) (o := (none, .int ((1 : Int32) - a5), sM Ln I L c s)) rfl rfl (dd_Af.ret rfl ?_) (by omega)
        show dd_Rn (e + 16) m_X11_rests (82, [.ref 148, .int a1, .int a2, .int a3, .int a4, .int a5], [.int ((1 : Int32) - a5), .int ((1 : Int32) - a5), .int a3], sM Ln I L c s) _
        refine dd_Rn.ite 0 (c := (1 : Int32) - a5 < (1 : Int32) - a5) (A := (116, [.ref 148, .int a1, .int a2, .int a3, .int a4, .int a5], [.int a3], sM Ln I L c s)) (B := (85, [.ref 148, .int a1, .int a2, .int a3, .int a4, .int a5], [.int a3], sM Ln I L c s)) rfl (fun hc => ?_) (fun hc => ?_) (by omega)
        · have h := h.1 hc
          exact dd_Rn.go 0 (cf' := (116, [.ref 148, .int a1, .int a2, .int a3, .int a4, .int a5], [.int a3], sM Ln I L c s)) rfl h (by omega)
        · have h := h.2 hc
          refine dd_Rn.sub 2 (pc := 89) (ls := [.ref 148, .int a1, .int a2, .int a3, .int a4, .int a5]) (st := [.int a5, .int a4, .int a3]) (M := sM Ln I L c s) (x := m_X11_theyHave) (as := [.int a4, .int a5]) (rest := [.int a3]) rfl rfl rfl rfl ?_
          show dd_Rn (e + 15) m_X11_theyHave (0, [.int a4, .int a5], [], sM Ln I L c s) _
          refine dd_Rn.ite 2 (c := a5 = 1) (A := (5, [.int a4, .int a5], [], sM Ln I L c s)) (B := (9, [.int a4, .int a5], [], sM Ln I L c s)) rfl (fun hc => ?_) (fun hc => ?_) (by omega)
          · have h := h.1 hc
            refine dd_Rn.retK 2 (pc := 19) (ls := [.int a4, .int a5]) (st := [.int (-1)]) (M := sM Ln I L c s) (o := (none, .int (-1), sM Ln I L c s)) rfl rfl (dd_Af.ret rfl ?_) (by omega)
            show dd_Rn (e + 16) m_X11_rests (92, [.ref 148, .int a1, .int a2, .int a3, .int a4, .int a5], [.int (-1), .int a3], sM Ln I L c s) _
            refine dd_Rn.sub 4 (pc := 98) (ls := [.ref 148, .int a1, .int a2, .int a3, .int a4, .int a5]) (st := [.int ((1 : Int32) - a5), .int a4, .int (-1), .int a3]) (M := sM Ln I L c s) (x := m_X11_theyHave) (as := [.int a4, .int ((1 : Int32) - a5)]) (rest := [.int (-1), .int a3]) rfl rfl rfl rfl ?_
            show dd_Rn (e + 15) m_X11_theyHave (0, [.int a4, .int ((1 : Int32) - a5)], [], sM Ln I L c s) _
            refine dd_Rn.ite 2 (c := (1 : Int32) - a5 = 1) (A := (5, [.int a4, .int ((1 : Int32) - a5)], [], sM Ln I L c s)) (B := (9, [.int a4, .int ((1 : Int32) - a5)], [], sM Ln I L c s)) rfl (fun hc => ?_) (fun hc => ?_) (by omega)
            · have h := h.1 hc
              refine dd_Rn.retK 2 (pc := 19) (ls := [.int a4, .int ((1 : Int32) - a5)]) (st := [.int (-1)]) (M := sM Ln I L c s) (o := (none, .int (-1), sM Ln I L c s)) rfl rfl (dd_Af.ret rfl ?_) (by omega)
              show dd_Rn (e + 16) m_X11_rests (101, [.ref 148, .int a1, .int a2, .int a3, .int a4, .int a5], [.int (-1), .int (-1), .int a3], sM Ln I L c s) _
              exact dd_Rn.go 9 (cf' := (117, [.ref 148, .int a1, .int a2, .int a3, .int a4, .int a5], [.int ((1 : Int32) <<< ((((2 : Int32) * a4) + a5) &&& 31)), .int a3], sM Ln I L c s)) rfl h (by omega)
            · have h := h.2 hc
              refine dd_Rn.ite 1 (c := a4 = 0) (A := (13, [.int a4, .int ((1 : Int32) - a5)], [], sM Ln I L c s)) (B := (17, [.int a4, .int ((1 : Int32) - a5)], [], sM Ln I L c s)) rfl (fun hc => ?_) (fun hc => ?_) (by omega)
              · have h := h.1 hc
                refine dd_Rn.retK 2 (pc := 19) (ls := [.int a4, .int ((1 : Int32) - a5)]) (st := [.int 3]) (M := sM Ln I L c s) (o := (none, .int 3, sM Ln I L c s)) rfl rfl (dd_Af.ret rfl ?_) (by omega)
                show dd_Rn (e + 16) m_X11_rests (101, [.ref 148, .int a1, .int a2, .int a3, .int a4, .int a5], [.int 3, .int (-1), .int a3], sM Ln I L c s) _
                exact dd_Rn.go 1 (cf' := (116, [.ref 148, .int a1, .int a2, .int a3, .int a4, .int a5], [.int a3], sM Ln I L c s)) rfl h (by omega)
              · have h := h.2 hc
                refine dd_Rn.retK 1 (pc := 19) (ls := [.int a4, .int ((1 : Int32) - a5)]) (st := [.int (-2)]) (M := sM Ln I L c s) (o := (none, .int (-2), sM Ln I L c s)) rfl rfl (dd_Af.ret rfl ?_) (by omega)
                show dd_Rn (e + 16) m_X11_rests (101, [.ref 148, .int a1, .int a2, .int a3, .int a4, .int a5], [.int (-2), .int (-1), .int a3], sM Ln I L c s) _
                exact dd_Rn.go 9 (cf' := (117, [.ref 148, .int a1, .int a2, .int a3, .int a4, .int a5], [.int ((1 : Int32) <<< ((((2 : Int32) * a4) + a5) &&& 31)), .int a3], sM Ln I L c s)) rfl h (by omega)
          · have h := h.2 hc
            refine dd_Rn.ite 1 (c := a4 = 0) (A := (13, [.int a4, .int a5], [], sM Ln I L c s)) (B := (17, [.int a4, .int a5], [], sM Ln I L c s)) rfl (fun hc => ?_) (fun hc => ?_) (by omega)
            · have h := h.1 hc
              refine dd_Rn.retK 2 (pc := 19) (ls := [.int a4, .int a5]) (st := [.int 3]) (M := sM Ln I L c s) (o := (none, .int 3, sM Ln I L c s)) rfl rfl (dd_Af.ret rfl ?_) (by omega)
              show dd_Rn (e + 16) m_X11_rests (92, [.ref 148, .int a1, .int a2, .int a3, .int a4, .int a5], [.int 3, .int a3], sM Ln I L c s) _
              refine dd_Rn.sub 4 (pc := 98) (ls := [.ref 148, .int a1, .int a2, .int a3, .int a4, .int a5]) (st := [.int ((1 : Int32) - a5), .int a4, .int 3, .int a3]) (M := sM Ln I L c s) (x := m_X11_theyHave) (as := [.int a4, .int ((1 : Int32) - a5)]) (rest := [.int 3, .int a3]) rfl rfl rfl rfl ?_
              show dd_Rn (e + 15) m_X11_theyHave (0, [.int a4, .int ((1 : Int32) - a5)], [], sM Ln I L c s) _
              refine dd_Rn.ite 2 (c := (1 : Int32) - a5 = 1) (A := (5, [.int a4, .int ((1 : Int32) - a5)], [], sM Ln I L c s)) (B := (9, [.int a4, .int ((1 : Int32) - a5)], [], sM Ln I L c s)) rfl (fun hc => ?_) (fun hc => ?_) (by omega)
              · have h := h.1 hc
                refine dd_Rn.retK 2 (pc := 19) (ls := [.int a4, .int ((1 : Int32) - a5)]) (st := [.int (-1)]) (M := sM Ln I L c s) (o := (none, .int (-1), sM Ln I L c s)) rfl rfl (dd_Af.ret rfl ?_) (by omega)
                show dd_Rn (e + 16) m_X11_rests (101, [.ref 148, .int a1, .int a2, .int a3, .int a4, .int a5], [.int (-1), .int 3, .int a3], sM Ln I L c s) _
                exact dd_Rn.go 9 (cf' := (117, [.ref 148, .int a1, .int a2, .int a3, .int a4, .int a5], [.int ((1 : Int32) <<< ((((2 : Int32) * a4) + a5) &&& 31)), .int a3], sM Ln I L c s)) rfl h (by omega)
              · have h := h.2 hc
                refine dd_Rn.ite 1 (c := a4 = 0) (A := (13, [.int a4, .int ((1 : Int32) - a5)], [], sM Ln I L c s)) (B := (17, [.int a4, .int ((1 : Int32) - a5)], [], sM Ln I L c s)) rfl (fun hc => ?_) (fun hc => ?_) (by omega)
                · have h := h.1 hc
                  refine dd_Rn.retK 2 (pc := 19) (ls := [.int a4, .int ((1 : Int32) - a5)]) (st := [.int 3]) (M := sM Ln I L c s) (o := (none, .int 3, sM Ln I L c s)) rfl rfl (dd_Af.ret rfl ?_) (by omega)
                  show dd_Rn (e + 16) m_X11_rests (101, [.ref 148, .int a1, .int a2, .int a3, .int a4, .int a5], [.int 3, .int 3, .int a3], sM Ln I L c s) _
                  exact dd_Rn.go 9 (cf' := (117, [.ref 148, .int a1, .int a2, .int a3, .int a4, .int a5], [.int ((1 : Int32) <<< ((((2 : Int32) * a4) + a5) &&& 31)), .int a3], sM Ln I L c s)) rfl h (by omega)
                · have h := h.2 hc
                  refine dd_Rn.retK 1 (pc := 19) (ls := [.int a4, .int ((1 : Int32) - a5)]) (st := [.int (-2)]) (M := sM Ln I L c s) (o := (none, .int (-2), sM Ln I L c s)) rfl rfl (dd_Af.ret rfl ?_) (by omega)
                  show dd_Rn (e + 16) m_X11_rests (101, [.ref 148, .int a1, .int a2, .int a3, .int a4, .int a5], [.int (-2), .int 3, .int a3], sM Ln I L c s) _
                  exact dd_Rn.go 9 (cf' := (117, [.ref 148, .int a1, .int a2, .int a3, .int a4, .int a5], [.int ((1 : Int32) <<< ((((2 : Int32) * a4) + a5) &&& 31)), .int a3], sM Ln I L c s)) rfl h (by omega)
            · have h := h.2 hc
              refine dd_Rn.retK 1 (pc := 19) (ls := [.int a4, .int a5]) (st := [.int (-2)]) (M := sM Ln I L c s) (o := (none, .int (-2), sM Ln I L c s)) rfl rfl (dd_Af.ret rfl ?_) (by omega)
              show dd_Rn (e + 16) m_X11_rests (92, [.ref 148, .int a1, .int a2, .int a3, .int a4, .int a5], [.int (-2), .int a3], sM Ln I L c s) _
              refine dd_Rn.sub 4 (pc := 98) (ls := [.ref 148, .int a1, .int a2, .int a3, .int a4, .int a5]) (st := [.int ((1 : Int32) - a5), .int a4, .int (-2), .int a3]) (M := sM Ln I L c s) (x := m_X11_theyHave) (as := [.int a4, .int ((1 : Int32) - a5)]) (rest := [.int (-2), .int a3]) rfl rfl rfl rfl ?_
              show dd_Rn (e + 15) m_X11_theyHave (0, [.int a4, .int ((1 : Int32) - a5)], [], sM Ln I L c s) _
              refine dd_Rn.ite 2 (c := (1 : Int32) - a5 = 1) (A := (5, [.int a4, .int ((1 : Int32) - a5)], [], sM Ln I L c s)) (B := (9, [.int a4, .int ((1 : Int32) - a5)], [], sM Ln I L c s)) rfl (fun hc => ?_) (fun hc => ?_) (by omega)
              · have h := h.1 hc
                refine dd_Rn.retK 2 (pc := 19) (ls := [.int a4, .int ((1 : Int32) - a5)]) (st := [.int (-1)]) (M := sM Ln I L c s) (o := (none, .int (-1), sM Ln I L c s)) rfl rfl (dd_Af.ret rfl ?_) (by omega)
                show dd_Rn (e + 16) m_X11_rests (101, [.ref 148, .int a1, .int a2, .int a3, .int a4, .int a5], [.int (-1), .int (-2), .int a3], sM Ln I L c s) _
                exact dd_Rn.go 1 (cf' := (116, [.ref 148, .int a1, .int a2, .int a3, .int a4, .int a5], [.int a3], sM Ln I L c s)) rfl h (by omega)
              · have h := h.2 hc
                refine dd_Rn.ite 1 (c := a4 = 0) (A := (13, [.int a4, .int ((1 : Int32) - a5)], [], sM Ln I L c s)) (B := (17, [.int a4, .int ((1 : Int32) - a5)], [], sM Ln I L c s)) rfl (fun hc => ?_) (fun hc => ?_) (by omega)
                · have h := h.1 hc
                  refine dd_Rn.retK 2 (pc := 19) (ls := [.int a4, .int ((1 : Int32) - a5)]) (st := [.int 3]) (M := sM Ln I L c s) (o := (none, .int 3, sM Ln I L c s)) rfl rfl (dd_Af.ret rfl ?_) (by omega)
                  show dd_Rn (e + 16) m_X11_rests (101, [.ref 148, .int a1, .int a2, .int a3, .int a4, .int a5], [.int 3, .int (-2), .int a3], sM Ln I L c s) _
                  exact dd_Rn.go 1 (cf' := (116, [.ref 148, .int a1, .int a2, .int a3, .int a4, .int a5], [.int a3], sM Ln I L c s)) rfl h (by omega)
                · have h := h.2 hc
                  refine dd_Rn.retK 1 (pc := 19) (ls := [.int a4, .int ((1 : Int32) - a5)]) (st := [.int (-2)]) (M := sM Ln I L c s) (o := (none, .int (-2), sM Ln I L c s)) rfl rfl (dd_Af.ret rfl ?_) (by omega)
                  show dd_Rn (e + 16) m_X11_rests (101, [.ref 148, .int a1, .int a2, .int a3, .int a4, .int a5], [.int (-2), .int (-2), .int a3], sM Ln I L c s) _
                  exact dd_Rn.go 9 (cf' := (117, [.ref 148, .int a1, .int a2, .int a3, .int a4, .int a5], [.int ((1 : Int32) <<< ((((2 : Int32) * a4) + a5) &&& 31)), .int a3], sM Ln I L c s)) rfl h (by omega)
      · have h := h.2 hc
        refine dd_Rn.ite 1 (c := a5 = 0) (A := (13, [.ref 148, .int a2, .int ((1 : Int32) - a4), .int a5], [], sM Ln I L c s)) (B := (20, [.ref 148, .int a2, .int ((1 : Int32) - a4), .int a5], [], sM Ln I L c s)) rfl (fun hc => ?_) (fun hc => ?_) (by omega)
        · have h := h.1 hc
          refine dd_Rn.retK 4 (pc := 22) (ls := [.ref 148, .int a2, .int ((1 : Int32) - a4), .int a5]) (st := [.int ((9 : Int32) - a2)]) (M := sM Ln I L c s) (o := (none, .int ((9 : Int32) - a2), sM Ln I L c s)) rfl rfl (dd_Af.ret rfl ?_) (by omega)
          show dd_Rn (e + 16) m_X11_rests (82, [.ref 148, .int a1, .int a2, .int a3, .int a4, .int a5], [.int ((9 : Int32) - a2), .int ((1 : Int32) - a5), .int a3], sM Ln I L c s) _
          refine dd_Rn.ite 0 (c := (1 : Int32) - a5 < (9 : Int32) - a2) (A := (116, [.ref 148, .int a1, .int a2, .int a3, .int a4, .int a5], [.int a3], sM Ln I L c s)) (B := (85, [.ref 148, .int a1, .int a2, .int a3, .int a4, .int a5], [.int a3], sM Ln I L c s)) rfl (fun hc => ?_) (fun hc => ?_) (by omega)
          · have h := h.1 hc
            exact dd_Rn.go 0 (cf' := (116, [.ref 148, .int a1, .int a2, .int a3, .int a4, .int a5], [.int a3], sM Ln I L c s)) rfl h (by omega)
          · have h := h.2 hc
            refine dd_Rn.sub 2 (pc := 89) (ls := [.ref 148, .int a1, .int a2, .int a3, .int a4, .int a5]) (st := [.int a5, .int a4, .int a3]) (M := sM Ln I L c s) (x := m_X11_theyHave) (as := [.int a4, .int a5]) (rest := [.int a3]) rfl rfl rfl rfl ?_
            show dd_Rn (e + 15) m_X11_theyHave (0, [.int a4, .int a5], [], sM Ln I L c s) _
            refine dd_Rn.ite 2 (c := a5 = 1) (A := (5, [.int a4, .int a5], [], sM Ln I L c s)) (B := (9, [.int a4, .int a5], [], sM Ln I L c s)) rfl (fun hc => ?_) (fun hc => ?_) (by omega)
            · have h := h.1 hc
              refine dd_Rn.retK 2 (pc := 19) (ls := [.int a4, .int a5]) (st := [.int (-1)]) (M := sM Ln I L c s) (o := (none, .int (-1), sM Ln I L c s)) rfl rfl (dd_Af.ret rfl ?_) (by omega)
              show dd_Rn (e + 16) m_X11_rests (92, [.ref 148, .int a1, .int a2, .int a3, .int a4, .int a5], [.int (-1), .int a3], sM Ln I L c s) _
              refine dd_Rn.sub 4 (pc := 98) (ls := [.ref 148, .int a1, .int a2, .int a3, .int a4, .int a5]) (st := [.int ((1 : Int32) - a5), .int a4, .int (-1), .int a3]) (M := sM Ln I L c s) (x := m_X11_theyHave) (as := [.int a4, .int ((1 : Int32) - a5)]) (rest := [.int (-1), .int a3]) rfl rfl rfl rfl ?_
              show dd_Rn (e + 15) m_X11_theyHave (0, [.int a4, .int ((1 : Int32) - a5)], [], sM Ln I L c s) _
              refine dd_Rn.ite 2 (c := (1 : Int32) - a5 = 1) (A := (5, [.int a4, .int ((1 : Int32) - a5)], [], sM Ln I L c s)) (B := (9, [.int a4, .int ((1 : Int32) - a5)], [], sM Ln I L c s)) rfl (fun hc => ?_) (fun hc => ?_) (by omega)
              · have h := h.1 hc
                refine dd_Rn.retK 2 (pc := 19) (ls := [.int a4, .int ((1 : Int32) - a5)]) (st := [.int (-1)]) (M := sM Ln I L c s) (o := (none, .int (-1), sM Ln I L c s)) rfl rfl (dd_Af.ret rfl ?_) (by omega)
                show dd_Rn (e + 16) m_X11_rests (101, [.ref 148, .int a1, .int a2, .int a3, .int a4, .int a5], [.int (-1), .int (-1), .int a3], sM Ln I L c s) _
                exact dd_Rn.go 9 (cf' := (117, [.ref 148, .int a1, .int a2, .int a3, .int a4, .int a5], [.int ((1 : Int32) <<< ((((2 : Int32) * a4) + a5) &&& 31)), .int a3], sM Ln I L c s)) rfl h (by omega)
              · have h := h.2 hc
                refine dd_Rn.ite 1 (c := a4 = 0) (A := (13, [.int a4, .int ((1 : Int32) - a5)], [], sM Ln I L c s)) (B := (17, [.int a4, .int ((1 : Int32) - a5)], [], sM Ln I L c s)) rfl (fun hc => ?_) (fun hc => ?_) (by omega)
                · have h := h.1 hc
                  refine dd_Rn.retK 2 (pc := 19) (ls := [.int a4, .int ((1 : Int32) - a5)]) (st := [.int 3]) (M := sM Ln I L c s) (o := (none, .int 3, sM Ln I L c s)) rfl rfl (dd_Af.ret rfl ?_) (by omega)
                  show dd_Rn (e + 16) m_X11_rests (101, [.ref 148, .int a1, .int a2, .int a3, .int a4, .int a5], [.int 3, .int (-1), .int a3], sM Ln I L c s) _
                  exact dd_Rn.go 1 (cf' := (116, [.ref 148, .int a1, .int a2, .int a3, .int a4, .int a5], [.int a3], sM Ln I L c s)) rfl h (by omega)
                · have h := h.2 hc
                  refine dd_Rn.retK 1 (pc := 19) (ls := [.int a4, .int ((1 : Int32) - a5)]) (st := [.int (-2)]) (M := sM Ln I L c s) (o := (none, .int (-2), sM Ln I L c s)) rfl rfl (dd_Af.ret rfl ?_) (by omega)
                  show dd_Rn (e + 16) m_X11_rests (101, [.ref 148, .int a1, .int a2, .int a3, .int a4, .int a5], [.int (-2), .int (-1), .int a3], sM Ln I L c s) _
                  exact dd_Rn.go 9 (cf' := (117, [.ref 148, .int a1, .int a2, .int a3, .int a4, .int a5], [.int ((1 : Int32) <<< ((((2 : Int32) * a4) + a5) &&& 31)), .int a3], sM Ln I L c s)) rfl h (by omega)
            · have h := h.2 hc
              refine dd_Rn.ite 1 (c := a4 = 0) (A := (13, [.int a4, .int a5], [], sM Ln I L c s)) (B := (17, [.int a4, .int a5], [], sM Ln I L c s)) rfl (fun hc => ?_) (fun hc => ?_) (by omega)
              · have h := h.1 hc
                refine dd_Rn.retK 2 (pc := 19) (ls := [.int a4, .int a5]) (st := [.int 3]) (M := sM Ln I L c s) (o := (none, .int 3, sM Ln I L c s)) rfl rfl (dd_Af.ret rfl ?_) (by omega)
                show dd_Rn (e + 16) m_X11_rests (92, [.ref 148, .int a1, .int a2, .int a3, .int a4, .int a5], [.int 3, .int a3], sM Ln I L c s) _
                refine dd_Rn.sub 4 (pc := 98) (ls := [.ref 148, .int a1, .int a2, .int a3, .int a4, .int a5]) (st := [.int ((1 : Int32) - a5), .int a4, .int 3, .int a3]) (M := sM Ln I L c s) (x := m_X11_theyHave) (as := [.int a4, .int ((1 : Int32) - a5)]) (rest := [.int 3, .int a3]) rfl rfl rfl rfl ?_
                show dd_Rn (e + 15) m_X11_theyHave (0, [.int a4, .int ((1 : Int32) - a5)], [], sM Ln I L c s) _
                refine dd_Rn.ite 2 (c := (1 : Int32) - a5 = 1) (A := (5, [.int a4, .int ((1 : Int32) - a5)], [], sM Ln I L c s)) (B := (9, [.int a4, .int ((1 : Int32) - a5)], [], sM Ln I L c s)) rfl (fun hc => ?_) (fun hc => ?_) (by omega)
                · have h := h.1 hc
                  refine dd_Rn.retK 2 (pc := 19) (ls := [.int a4, .int ((1 : Int32) - a5)]) (st := [.int (-1)]) (M := sM Ln I L c s) (o := (none, .int (-1), sM Ln I L c s)) rfl rfl (dd_Af.ret rfl ?_) (by omega)
                  show dd_Rn (e + 16) m_X11_rests (101, [.ref 148, .int a1, .int a2, .int a3, .int a4, .int a5], [.int (-1), .int 3, .int a3], sM Ln I L c s) _
                  exact dd_Rn.go 9 (cf' := (117, [.ref 148, .int a1, .int a2, .int a3, .int a4, .int a5], [.int ((1 : Int32) <<< ((((2 : Int32) * a4) + a5) &&& 31)), .int a3], sM Ln I L c s)) rfl h (by omega)
                · have h := h.2 hc
                  refine dd_Rn.ite 1 (c := a4 = 0) (A := (13, [.int a4, .int ((1 : Int32) - a5)], [], sM Ln I L c s)) (B := (17, [.int a4, .int ((1 : Int32) - a5)], [], sM Ln I L c s)) rfl (fun hc => ?_) (fun hc => ?_) (by omega)
                  · have h := h.1 hc
                    refine dd_Rn.retK 2 (pc := 19) (ls := [.int a4, .int ((1 : Int32) - a5)]) (st := [.int 3]) (M := sM Ln I L c s) (o := (none, .int 3, sM Ln I L c s)) rfl rfl (dd_Af.ret rfl ?_) (by omega)
                    show dd_Rn (e + 16) m_X11_rests (101, [.ref 148, .int a1, .int a2, .int a3, .int a4, .int a5], [.int 3, .int 3, .int a3], sM Ln I L c s) _
                    exact dd_Rn.go 9 (cf' := (117, [.ref 148, .int a1, .int a2, .int a3, .int a4, .int a5], [.int ((1 : Int32) <<< ((((2 : Int32) * a4) + a5) &&& 31)), .int a3], sM Ln I L c s)) rfl h (by omega)
                  · have h := h.2 hc
                    refine dd_Rn.retK 1 (pc := 19) (ls := [.int a4, .int ((1 : Int32) - a5)]) (st := [.int (-2)]) (M := sM Ln I L c s) (o := (none, .int (-2), sM Ln I L c s)) rfl rfl (dd_Af.ret rfl ?_) (by omega)
                    show dd_Rn (e + 16) m_X11_rests (101, [.ref 148, .int a1, .int a2, .int a3, .int a4, .int a5], [.int (-2), .int 3, .int a3], sM Ln I L c s) _
                    exact dd_Rn.go 9 (cf' := (117, [.ref 148, .int a1, .int a2, .int a3, .int a4, .int a5], [.int ((1 : Int32) <<< ((((2 : Int32) * a4) + a5) &&& 31)), .int a3], sM Ln I L c s)) rfl h (by omega)
              · have h := h.2 hc
                refine dd_Rn.retK 1 (pc := 19) (ls := [.int a4, .int a5]) (st := [.int (-2)]) (M := sM Ln I L c s) (o := (none, .int (-2), sM Ln I L c s)) rfl rfl (dd_Af.ret rfl ?_) (by omega)
                show dd_Rn (e + 16) m_X11_rests (92, [.ref 148, .int a1, .int a2, .int a3, .int a4, .int a5], [.int (-2), .int a3], sM Ln I L c s) _
                refine dd_Rn.sub 4 (pc := 98) (ls := [.ref 148, .int a1, .int a2, .int a3, .int a4, .int a5]) (st := [.int ((1 : Int32) - a5), .int a4, .int (-2), .int a3]) (M := sM Ln I L c s) (x := m_X11_theyHave) (as := [.int a4, .int ((1 : Int32) - a5)]) (rest := [.int (-2), .int a3]) rfl rfl rfl rfl ?_
                show dd_Rn (e + 15) m_X11_theyHave (0, [.int a4, .int ((1 : Int32) - a5)], [], sM Ln I L c s) _
                refine dd_Rn.ite 2 (c := (1 : Int32) - a5 = 1) (A := (5, [.int a4, .int ((1 : Int32) - a5)], [], sM Ln I L c s)) (B := (9, [.int a4, .int ((1 : Int32) - a5)], [], sM Ln I L c s)) rfl (fun hc => ?_) (fun hc => ?_) (by omega)
                · have h := h.1 hc
                  refine dd_Rn.retK 2 (pc := 19) (ls := [.int a4, .int ((1 : Int32) - a5)]) (st := [.int (-1)]) (M := sM Ln I L c s) (o := (none, .int (-1), sM Ln I L c s)) rfl rfl (dd_Af.ret rfl ?_) (by omega)
                  show dd_Rn (e + 16) m_X11_rests (101, [.ref 148, .int a1, .int a2, .int a3, .int a4, .int a5], [.int (-1), .int (-2), .int a3], sM Ln I L c s) _
                  exact dd_Rn.go 1 (cf' := (116, [.ref 148, .int a1, .int a2, .int a3, .int a4, .int a5], [.int a3], sM Ln I L c s)) rfl h (by omega)
                · have h := h.2 hc
                  refine dd_Rn.ite 1 (c := a4 = 0) (A := (13, [.int a4, .int ((1 : Int32) - a5)], [], sM Ln I L c s)) (B := (17, [.int a4, .int ((1 : Int32) - a5)], [], sM Ln I L c s)) rfl (fun hc => ?_) (fun hc => ?_) (by omega)
                  · have h := h.1 hc
                    refine dd_Rn.retK 2 (pc := 19) (ls := [.int a4, .int ((1 : Int32) - a5)]) (st := [.int 3]) (M := sM Ln I L c s) (o := (none, .int 3, sM Ln I L c s)) rfl rfl (dd_Af.ret rfl ?_) (by omega)
                    show dd_Rn (e + 16) m_X11_rests (101, [.ref 148, .int a1, .int a2, .int a3, .int a4, .int a5], [.int 3, .int (-2), .int a3], sM Ln I L c s) _
                    exact dd_Rn.go 1 (cf' := (116, [.ref 148, .int a1, .int a2, .int a3, .int a4, .int a5], [.int a3], sM Ln I L c s)) rfl h (by omega)
                  · have h := h.2 hc
                    refine dd_Rn.retK 1 (pc := 19) (ls := [.int a4, .int ((1 : Int32) - a5)]) (st := [.int (-2)]) (M := sM Ln I L c s) (o := (none, .int (-2), sM Ln I L c s)) rfl rfl (dd_Af.ret rfl ?_) (by omega)
                    show dd_Rn (e + 16) m_X11_rests (101, [.ref 148, .int a1, .int a2, .int a3, .int a4, .int a5], [.int (-2), .int (-2), .int a3], sM Ln I L c s) _
                    exact dd_Rn.go 9 (cf' := (117, [.ref 148, .int a1, .int a2, .int a3, .int a4, .int a5], [.int ((1 : Int32) <<< ((((2 : Int32) * a4) + a5) &&& 31)), .int a3], sM Ln I L c s)) rfl h (by omega)
        · have h := h.2 hc
          refine dd_Rn.retK 1 (pc := 22) (ls := [.ref 148, .int a2, .int ((1 : Int32) - a4), .int a5]) (st := [.int (-3)]) (M := sM Ln I L c s) (o := (none, .int (-3), sM Ln I L c s)) rfl rfl (dd_Af.ret rfl ?_) (by omega)
          show dd_Rn (e + 16) m_X11_rests (82, [.ref 148, .int a1, .int a2, .int a3, .int a4, .int a5], [.int (-3), .int ((1 : Int32) - a5), .int a3], sM Ln I L c s) _
          refine dd_Rn.ite 0 (c := (1 : Int32) - a5 < (-3)) (A := (116, [.ref 148, .int a1, .int a2, .int a3, .int a4, .int a5], [.int a3], sM Ln I L c s)) (B := (85, [.ref 148, .int a1, .int a2, .int a3, .int a4, .int a5], [.int a3], sM Ln I L c s)) rfl (fun hc => ?_) (fun hc => ?_) (by omega)
          · have h := h.1 hc
            exact dd_Rn.go 0 (cf' := (116, [.ref 148, .int a1, .int a2, .int a3, .int a4, .int a5], [.int a3], sM Ln I L c s)) rfl h (by omega)
          · have h := h.2 hc
            refine dd_Rn.sub 2 (pc := 89) (ls := [.ref 148, .int a1, .int a2, .int a3, .int a4, .int a5]) (st := [.int a5, .int a4, .int a3]) (M := sM Ln I L c s) (x := m_X11_theyHave) (as := [.int a4, .int a5]) (rest := [.int a3]) rfl rfl rfl rfl ?_
            show dd_Rn (e + 15) m_X11_theyHave (0, [.int a4, .int a5], [], sM Ln I L c s) _
            refine dd_Rn.ite 2 (c := a5 = 1) (A := (5, [.int a4, .int a5], [], sM Ln I L c s)) (B := (9, [.int a4, .int a5], [], sM Ln I L c s)) rfl (fun hc => ?_) (fun hc => ?_) (by omega)
            · have h := h.1 hc
              refine dd_Rn.retK 2 (pc := 19) (ls := [.int a4, .int a5]) (st := [.int (-1)]) (M := sM Ln I L c s) (o := (none, .int (-1), sM Ln I L c s)) rfl rfl (dd_Af.ret rfl ?_) (by omega)
              show dd_Rn (e + 16) m_X11_rests (92, [.ref 148, .int a1, .int a2, .int a3, .int a4, .int a5], [.int (-1), .int a3], sM Ln I L c s) _
              refine dd_Rn.sub 4 (pc := 98) (ls := [.ref 148, .int a1, .int a2, .int a3, .int a4, .int a5]) (st := [.int ((1 : Int32) - a5), .int a4, .int (-1), .int a3]) (M := sM Ln I L c s) (x := m_X11_theyHave) (as := [.int a4, .int ((1 : Int32) - a5)]) (rest := [.int (-1), .int a3]) rfl rfl rfl rfl ?_
              show dd_Rn (e + 15) m_X11_theyHave (0, [.int a4, .int ((1 : Int32) - a5)], [], sM Ln I L c s) _
              refine dd_Rn.ite 2 (c := (1 : Int32) - a5 = 1) (A := (5, [.int a4, .int ((1 : Int32) - a5)], [], sM Ln I L c s)) (B := (9, [.int a4, .int ((1 : Int32) - a5)], [], sM Ln I L c s)) rfl (fun hc => ?_) (fun hc => ?_) (by omega)
              · have h := h.1 hc
                refine dd_Rn.retK 2 (pc := 19) (ls := [.int a4, .int ((1 : Int32) - a5)]) (st := [.int (-1)]) (M := sM Ln I L c s) (o := (none, .int (-1), sM Ln I L c s)) rfl rfl (dd_Af.ret rfl ?_) (by omega)
                show dd_Rn (e + 16) m_X11_rests (101, [.ref 148, .int a1, .int a2, .int a3, .int a4, .int a5], [.int (-1), .int (-1), .int a3], sM Ln I L c s) _
                exact dd_Rn.go 9 (cf' := (117, [.ref 148, .int a1, .int a2, .int a3, .int a4, .int a5], [.int ((1 : Int32) <<< ((((2 : Int32) * a4) + a5) &&& 31)), .int a3], sM Ln I L c s)) rfl h (by omega)
              · have h := h.2 hc
                refine dd_Rn.ite 1 (c := a4 = 0) (A := (13, [.int a4, .int ((1 : Int32) - a5)], [], sM Ln I L c s)) (B := (17, [.int a4, .int ((1 : Int32) - a5)], [], sM Ln I L c s)) rfl (fun hc => ?_) (fun hc => ?_) (by omega)
                · have h := h.1 hc
                  refine dd_Rn.retK 2 (pc := 19) (ls := [.int a4, .int ((1 : Int32) - a5)]) (st := [.int 3]) (M := sM Ln I L c s) (o := (none, .int 3, sM Ln I L c s)) rfl rfl (dd_Af.ret rfl ?_) (by omega)
                  show dd_Rn (e + 16) m_X11_rests (101, [.ref 148, .int a1, .int a2, .int a3, .int a4, .int a5], [.int 3, .int (-1), .int a3], sM Ln I L c s) _
                  exact dd_Rn.go 1 (cf' := (116, [.ref 148, .int a1, .int a2, .int a3, .int a4, .int a5], [.int a3], sM Ln I L c s)) rfl h (by omega)
                · have h := h.2 hc
                  refine dd_Rn.retK 1 (pc := 19) (ls := [.int a4, .int ((1 : Int32) - a5)]) (st := [.int (-2)]) (M := sM Ln I L c s) (o := (none, .int (-2), sM Ln I L c s)) rfl rfl (dd_Af.ret rfl ?_) (by omega)
                  show dd_Rn (e + 16) m_X11_rests (101, [.ref 148, .int a1, .int a2, .int a3, .int a4, .int a5], [.int (-2), .int (-1), .int a3], sM Ln I L c s) _
                  exact dd_Rn.go 9 (cf' := (117, [.ref 148, .int a1, .int a2, .int a3, .int a4, .int a5], [.int ((1 : Int32) <<< ((((2 : Int32) * a4) + a5) &&& 31)), .int a3], sM Ln I L c s)) rfl h (by omega)
            · have h := h.2 hc
              refine dd_Rn.ite 1 (c := a4 = 0) (A := (13, [.int a4, .int a5], [], sM Ln I L c s)) (B := (17, [.int a4, .int a5], [], sM Ln I L c s)) rfl (fun hc => ?_) (fun hc => ?_) (by omega)
              · have h := h.1 hc
                refine dd_Rn.retK 2 (pc := 19) (ls := [.int a4, .int a5]) (st := [.int 3]) (M := sM Ln I L c s) (o := (none, .int 3, sM Ln I L c s)) rfl rfl (dd_Af.ret rfl ?_) (by omega)
                show dd_Rn (e + 16) m_X11_rests (92, [.ref 148, .int a1, .int a2, .int a3, .int a4, .int a5], [.int 3, .int a3], sM Ln I L c s) _
                refine dd_Rn.sub 4 (pc := 98) (ls := [.ref 148, .int a1, .int a2, .int a3, .int a4, .int a5]) (st := [.int ((1 : Int32) - a5), .int a4, .int 3, .int a3]) (M := sM Ln I L c s) (x := m_X11_theyHave) (as := [.int a4, .int ((1 : Int32) - a5)]) (rest := [.int 3, .int a3]) rfl rfl rfl rfl ?_
                show dd_Rn (e + 15) m_X11_theyHave (0, [.int a4, .int ((1 : Int32) - a5)], [], sM Ln I L c s) _
                refine dd_Rn.ite 2 (c := (1 : Int32) - a5 = 1) (A := (5, [.int a4, .int ((1 : Int32) - a5)], [], sM Ln I L c s)) (B := (9, [.int a4, .int ((1 : Int32) - a5)], [], sM Ln I L c s)) rfl (fun hc => ?_) (fun hc => ?_) (by omega)
                · have h := h.1 hc
                  refine dd_Rn.retK 2 (pc := 19) (ls := [.int a4, .int ((1 : Int32) - a5)]) (st := [.int (-1)]) (M := sM Ln I L c s) (o := (none, .int (-1), sM Ln I L c s)) rfl rfl (dd_Af.ret rfl ?_) (by omega)
                  show dd_Rn (e + 16) m_X11_rests (101, [.ref 148, .int a1, .int a2, .int a3, .int a4, .int a5], [.int (-1), .int 3, .int a3], sM Ln I L c s) _
                  exact dd_Rn.go 9 (cf' := (117, [.ref 148, .int a1, .int a2, .int a3, .int a4, .int a5], [.int ((1 : Int32) <<< ((((2 : Int32) * a4) + a5) &&& 31)), .int a3], sM Ln I L c s)) rfl h (by omega)
                · have h := h.2 hc
                  refine dd_Rn.ite 1 (c := a4 = 0) (A := (13, [.int a4, .int ((1 : Int32) - a5)], [], sM Ln I L c s)) (B := (17, [.int a4, .int ((1 : Int32) - a5)], [], sM Ln I L c s)) rfl (fun hc => ?_) (fun hc => ?_) (by omega)
                  · have h := h.1 hc
                    refine dd_Rn.retK 2 (pc := 19) (ls := [.int a4, .int ((1 : Int32) - a5)]) (st := [.int 3]) (M := sM Ln I L c s) (o := (none, .int 3, sM Ln I L c s)) rfl rfl (dd_Af.ret rfl ?_) (by omega)
                    show dd_Rn (e + 16) m_X11_rests (101, [.ref 148, .int a1, .int a2, .int a3, .int a4, .int a5], [.int 3, .int 3, .int a3], sM Ln I L c s) _
                    exact dd_Rn.go 9 (cf' := (117, [.ref 148, .int a1, .int a2, .int a3, .int a4, .int a5], [.int ((1 : Int32) <<< ((((2 : Int32) * a4) + a5) &&& 31)), .int a3], sM Ln I L c s)) rfl h (by omega)
                  · have h := h.2 hc
                    refine dd_Rn.retK 1 (pc := 19) (ls := [.int a4, .int ((1 : Int32) - a5)]) (st := [.int (-2)]) (M := sM Ln I L c s) (o := (none, .int (-2), sM Ln I L c s)) rfl rfl (dd_Af.ret rfl ?_) (by omega)
                    show dd_Rn (e + 16) m_X11_rests (101, [.ref 148, .int a1, .int a2, .int a3, .int a4, .int a5], [.int (-2), .int 3, .int a3], sM Ln I L c s) _
                    exact dd_Rn.go 9 (cf' := (117, [.ref 148, .int a1, .int a2, .int a3, .int a4, .int a5], [.int ((1 : Int32) <<< ((((2 : Int32) * a4) + a5) &&& 31)), .int a3], sM Ln I L c s)) rfl h (by omega)
              · have h := h.2 hc
                refine dd_Rn.retK 1 (pc := 19) (ls := [.int a4, .int a5]) (st := [.int (-2)]) (M := sM Ln I L c s) (o := (none, .int (-2), sM Ln I L c s)) rfl rfl (dd_Af.ret rfl ?_) (by omega)
                show dd_Rn (e + 16) m_X11_rests (92, [.ref 148, .int a1, .int a2, .int a3, .int a4, .int a5], [.int (-2), .int a3], sM Ln I L c s) _
                refine dd_Rn.sub 4 (pc := 98) (ls := [.ref 148, .int a1, .int a2, .int a3, .int a4, .int a5]) (st := [.int ((1 : Int32) - a5), .int a4, .int (-2), .int a3]) (M := sM Ln I L c s) (x := m_X11_theyHave) (as := [.int a4, .int ((1 : Int32) - a5)]) (rest := [.int (-2), .int a3]) rfl rfl rfl rfl ?_
                show dd_Rn (e + 15) m_X11_theyHave (0, [.int a4, .int ((1 : Int32) - a5)], [], sM Ln I L c s) _
                refine dd_Rn.ite 2 (c := (1 : Int32) - a5 = 1) (A := (5, [.int a4, .int ((1 : Int32) - a5)], [], sM Ln I L c s)) (B := (9, [.int a4, .int ((1 : Int32) - a5)], [], sM Ln I L c s)) rfl (fun hc => ?_) (fun hc => ?_) (by omega)
                · have h := h.1 hc
                  refine dd_Rn.retK 2 (pc := 19) (ls := [.int a4, .int ((1 : Int32) - a5)]) (st := [.int (-1)]) (M := sM Ln I L c s) (o := (none, .int (-1), sM Ln I L c s)) rfl rfl (dd_Af.ret rfl ?_) (by omega)
                  show dd_Rn (e + 16) m_X11_rests (101, [.ref 148, .int a1, .int a2, .int a3, .int a4, .int a5], [.int (-1), .int (-2), .int a3], sM Ln I L c s) _
                  exact dd_Rn.go 1 (cf' := (116, [.ref 148, .int a1, .int a2, .int a3, .int a4, .int a5], [.int a3], sM Ln I L c s)) rfl h (by omega)
                · have h := h.2 hc
                  refine dd_Rn.ite 1 (c := a4 = 0) (A := (13, [.int a4, .int ((1 : Int32) - a5)], [], sM Ln I L c s)) (B := (17, [.int a4, .int ((1 : Int32) - a5)], [], sM Ln I L c s)) rfl (fun hc => ?_) (fun hc => ?_) (by omega)
                  · have h := h.1 hc
                    refine dd_Rn.retK 2 (pc := 19) (ls := [.int a4, .int ((1 : Int32) - a5)]) (st := [.int 3]) (M := sM Ln I L c s) (o := (none, .int 3, sM Ln I L c s)) rfl rfl (dd_Af.ret rfl ?_) (by omega)
                    show dd_Rn (e + 16) m_X11_rests (101, [.ref 148, .int a1, .int a2, .int a3, .int a4, .int a5], [.int 3, .int (-2), .int a3], sM Ln I L c s) _
                    exact dd_Rn.go 1 (cf' := (116, [.ref 148, .int a1, .int a2, .int a3, .int a4, .int a5], [.int a3], sM Ln I L c s)) rfl h (by omega)
                  · have h := h.2 hc
                    refine dd_Rn.retK 1 (pc := 19) (ls := [.int a4, .int ((1 : Int32) - a5)]) (st := [.int (-2)]) (M := sM Ln I L c s) (o := (none, .int (-2), sM Ln I L c s)) rfl rfl (dd_Af.ret rfl ?_) (by omega)
                    show dd_Rn (e + 16) m_X11_rests (101, [.ref 148, .int a1, .int a2, .int a3, .int a4, .int a5], [.int (-2), .int (-2), .int a3], sM Ln I L c s) _
                    exact dd_Rn.go 9 (cf' := (117, [.ref 148, .int a1, .int a2, .int a3, .int a4, .int a5], [.int ((1 : Int32) <<< ((((2 : Int32) * a4) + a5) &&& 31)), .int a3], sM Ln I L c s)) rfl h (by omega)
    · have h := h.2 hc
      refine dd_Rn.ite 1 (c := a5 = 0) (A := (13, [.ref 148, .int a2, .int a4, .int a5], [], sM Ln I L c s)) (B := (20, [.ref 148, .int a2, .int a4, .int a5], [], sM Ln I L c s)) rfl (fun hc => ?_) (fun hc => ?_) (by omega)
      · have h := h.1 hc
        refine dd_Rn.retK 4 (pc := 22) (ls := [.ref 148, .int a2, .int a4, .int a5]) (st := [.int ((9 : Int32) - a2)]) (M := sM Ln I L c s) (o := (none, .int ((9 : Int32) - a2), sM Ln I L c s)) rfl rfl (dd_Af.ret rfl ?_) (by omega)
        show dd_Rn (e + 16) m_X11_rests (71, [.ref 148, .int a1, .int a2, .int a3, .int a4, .int a5], [.int ((9 : Int32) - a2), .int a3], sM Ln I L c s) _
        refine dd_Rn.sub 6 (pc := 79) (ls := [.ref 148, .int a1, .int a2, .int a3, .int a4, .int a5]) (st := [.int a5, .int ((1 : Int32) - a4), .int a2, .ref 148, .int ((9 : Int32) - a2), .int a3]) (M := sM Ln I L c s) (x := m_X11_boyHas) (as := [.ref 148, .int a2, .int ((1 : Int32) - a4), .int a5]) (rest := [.int ((9 : Int32) - a2), .int a3]) rfl rfl rfl rfl ?_
        show dd_Rn (e + 15) m_X11_boyHas (0, [.ref 148, .int a2, .int ((1 : Int32) - a4), .int a5], [], sM Ln I L c s) _
        refine dd_Rn.ite 2 (c := (1 : Int32) - a4 = 1) (A := (5, [.ref 148, .int a2, .int ((1 : Int32) - a4), .int a5], [], sM Ln I L c s)) (B := (9, [.ref 148, .int a2, .int ((1 : Int32) - a4), .int a5], [], sM Ln I L c s)) rfl (fun hc => ?_) (fun hc => ?_) (by omega)
        · have h := h.1 hc
          refine dd_Rn.retK 3 (pc := 8) (ls := [.ref 148, .int a2, .int ((1 : Int32) - a4), .int a5]) (st := [.int ((1 : Int32) - a5)]) (M := sM Ln I L c s) (o := (none, .int ((1 : Int32) - a5), sM Ln I L c s)) rfl rfl (dd_Af.ret rfl ?_) (by omega)
          show dd_Rn (e + 16) m_X11_rests (82, [.ref 148, .int a1, .int a2, .int a3, .int a4, .int a5], [.int ((1 : Int32) - a5), .int ((9 : Int32) - a2), .int a3], sM Ln I L c s) _
          refine dd_Rn.ite 0 (c := (9 : Int32) - a2 < (1 : Int32) - a5) (A := (116, [.ref 148, .int a1, .int a2, .int a3, .int a4, .int a5], [.int a3], sM Ln I L c s)) (B := (85, [.ref 148, .int a1, .int a2, .int a3, .int a4, .int a5], [.int a3], sM Ln I L c s)) rfl (fun hc => ?_) (fun hc => ?_) (by omega)
          · have h := h.1 hc
            exact dd_Rn.go 0 (cf' := (116, [.ref 148, .int a1, .int a2, .int a3, .int a4, .int a5], [.int a3], sM Ln I L c s)) rfl h (by omega)
          · have h := h.2 hc
            refine dd_Rn.sub 2 (pc := 89) (ls := [.ref 148, .int a1, .int a2, .int a3, .int a4, .int a5]) (st := [.int a5, .int a4, .int a3]) (M := sM Ln I L c s) (x := m_X11_theyHave) (as := [.int a4, .int a5]) (rest := [.int a3]) rfl rfl rfl rfl ?_
            show dd_Rn (e + 15) m_X11_theyHave (0, [.int a4, .int a5], [], sM Ln I L c s) _
            refine dd_Rn.ite 2 (c := a5 = 1) (A := (5, [.int a4, .int a5], [], sM Ln I L c s)) (B := (9, [.int a4, .int a5], [], sM Ln I L c s)) rfl (fun hc => ?_) (fun hc => ?_) (by omega)
            · have h := h.1 hc
              refine dd_Rn.retK 2 (pc := 19) (ls := [.int a4, .int a5]) (st := [.int (-1)]) (M := sM Ln I L c s) (o := (none, .int (-1), sM Ln I L c s)) rfl rfl (dd_Af.ret rfl ?_) (by omega)
              show dd_Rn (e + 16) m_X11_rests (92, [.ref 148, .int a1, .int a2, .int a3, .int a4, .int a5], [.int (-1), .int a3], sM Ln I L c s) _
              refine dd_Rn.sub 4 (pc := 98) (ls := [.ref 148, .int a1, .int a2, .int a3, .int a4, .int a5]) (st := [.int ((1 : Int32) - a5), .int a4, .int (-1), .int a3]) (M := sM Ln I L c s) (x := m_X11_theyHave) (as := [.int a4, .int ((1 : Int32) - a5)]) (rest := [.int (-1), .int a3]) rfl rfl rfl rfl ?_
              show dd_Rn (e + 15) m_X11_theyHave (0, [.int a4, .int ((1 : Int32) - a5)], [], sM Ln I L c s) _
              refine dd_Rn.ite 2 (c := (1 : Int32) - a5 = 1) (A := (5, [.int a4, .int ((1 : Int32) - a5)], [], sM Ln I L c s)) (B := (9, [.int a4, .int ((1 : Int32) - a5)], [], sM Ln I L c s)) rfl (fun hc => ?_) (fun hc => ?_) (by omega)
              · have h := h.1 hc
                refine dd_Rn.retK 2 (pc := 19) (ls := [.int a4, .int ((1 : Int32) - a5)]) (st := [.int (-1)]) (M := sM Ln I L c s) (o := (none, .int (-1), sM Ln I L c s)) rfl rfl (dd_Af.ret rfl ?_) (by omega)
                show dd_Rn (e + 16) m_X11_rests (101, [.ref 148, .int a1, .int a2, .int a3, .int a4, .int a5], [.int (-1), .int (-1), .int a3], sM Ln I L c s) _
                exact dd_Rn.go 9 (cf' := (117, [.ref 148, .int a1, .int a2, .int a3, .int a4, .int a5], [.int ((1 : Int32) <<< ((((2 : Int32) * a4) + a5) &&& 31)), .int a3], sM Ln I L c s)) rfl h (by omega)
              · have h := h.2 hc
                refine dd_Rn.ite 1 (c := a4 = 0) (A := (13, [.int a4, .int ((1 : Int32) - a5)], [], sM Ln I L c s)) (B := (17, [.int a4, .int ((1 : Int32) - a5)], [], sM Ln I L c s)) rfl (fun hc => ?_) (fun hc => ?_) (by omega)
                · have h := h.1 hc
                  refine dd_Rn.retK 2 (pc := 19) (ls := [.int a4, .int ((1 : Int32) - a5)]) (st := [.int 3]) (M := sM Ln I L c s) (o := (none, .int 3, sM Ln I L c s)) rfl rfl (dd_Af.ret rfl ?_) (by omega)
                  show dd_Rn (e + 16) m_X11_rests (101, [.ref 148, .int a1, .int a2, .int a3, .int a4, .int a5], [.int 3, .int (-1), .int a3], sM Ln I L c s) _
                  exact dd_Rn.go 1 (cf' := (116, [.ref 148, .int a1, .int a2, .int a3, .int a4, .int a5], [.int a3], sM Ln I L c s)) rfl h (by omega)
                · have h := h.2 hc
                  refine dd_Rn.retK 1 (pc := 19) (ls := [.int a4, .int ((1 : Int32) - a5)]) (st := [.int (-2)]) (M := sM Ln I L c s) (o := (none, .int (-2), sM Ln I L c s)) rfl rfl (dd_Af.ret rfl ?_) (by omega)
                  show dd_Rn (e + 16) m_X11_rests (101, [.ref 148, .int a1, .int a2, .int a3, .int a4, .int a5], [.int (-2), .int (-1), .int a3], sM Ln I L c s) _
                  exact dd_Rn.go 9 (cf' := (117, [.ref 148, .int a1, .int a2, .int a3, .int a4, .int a5], [.int ((1 : Int32) <<< ((((2 : Int32) * a4) + a5) &&& 31)), .int a3], sM Ln I L c s)) rfl h (by omega)
            · have h := h.2 hc
              refine dd_Rn.ite 1 (c := a4 = 0) (A := (13, [.int a4, .int a5], [], sM Ln I L c s)) (B := (17, [.int a4, .int a5], [], sM Ln I L c s)) rfl (fun hc => ?_) (fun hc => ?_) (by omega)
              · have h := h.1 hc
                refine dd_Rn.retK 2 (pc := 19) (ls := [.int a4, .int a5]) (st := [.int 3]) (M := sM Ln I L c s) (o := (none, .int 3, sM Ln I L c s)) rfl rfl (dd_Af.ret rfl ?_) (by omega)
                show dd_Rn (e + 16) m_X11_rests (92, [.ref 148, .int a1, .int a2, .int a3, .int a4, .int a5], [.int 3, .int a3], sM Ln I L c s) _
                refine dd_Rn.sub 4 (pc := 98) (ls := [.ref 148, .int a1, .int a2, .int a3, .int a4, .int a5]) (st := [.int ((1 : Int32) - a5), .int a4, .int 3, .int a3]) (M := sM Ln I L c s) (x := m_X11_theyHave) (as := [.int a4, .int ((1 : Int32) - a5)]) (rest := [.int 3, .int a3]) rfl rfl rfl rfl ?_
                show dd_Rn (e + 15) m_X11_theyHave (0, [.int a4, .int ((1 : Int32) - a5)], [], sM Ln I L c s) _
                refine dd_Rn.ite 2 (c := (1 : Int32) - a5 = 1) (A := (5, [.int a4, .int ((1 : Int32) - a5)], [], sM Ln I L c s)) (B := (9, [.int a4, .int ((1 : Int32) - a5)], [], sM Ln I L c s)) rfl (fun hc => ?_) (fun hc => ?_) (by omega)
                · have h := h.1 hc
                  refine dd_Rn.retK 2 (pc := 19) (ls := [.int a4, .int ((1 : Int32) - a5)]) (st := [.int (-1)]) (M := sM Ln I L c s) (o := (none, .int (-1), sM Ln I L c s)) rfl rfl (dd_Af.ret rfl ?_) (by omega)
                  show dd_Rn (e + 16) m_X11_rests (101, [.ref 148, .int a1, .int a2, .int a3, .int a4, .int a5], [.int (-1), .int 3, .int a3], sM Ln I L c s) _
                  exact dd_Rn.go 9 (cf' := (117, [.ref 148, .int a1, .int a2, .int a3, .int a4, .int a5], [.int ((1 : Int32) <<< ((((2 : Int32) * a4) + a5) &&& 31)), .int a3], sM Ln I L c s)) rfl h (by omega)
                · have h := h.2 hc
                  refine dd_Rn.ite 1 (c := a4 = 0) (A := (13, [.int a4, .int ((1 : Int32) - a5)], [], sM Ln I L c s)) (B := (17, [.int a4, .int ((1 : Int32) - a5)], [], sM Ln I L c s)) rfl (fun hc => ?_) (fun hc => ?_) (by omega)
                  · have h := h.1 hc
                    refine dd_Rn.retK 2 (pc := 19) (ls := [.int a4, .int ((1 : Int32) - a5)]) (st := [.int 3]) (M := sM Ln I L c s) (o := (none, .int 3, sM Ln I L c s)) rfl rfl (dd_Af.ret rfl ?_) (by omega)
                    show dd_Rn (e + 16) m_X11_rests (101, [.ref 148, .int a1, .int a2, .int a3, .int a4, .int a5], [.int 3, .int 3, .int a3], sM Ln I L c s) _
                    exact dd_Rn.go 9 (cf' := (117, [.ref 148, .int a1, .int a2, .int a3, .int a4, .int a5], [.int ((1 : Int32) <<< ((((2 : Int32) * a4) + a5) &&& 31)), .int a3], sM Ln I L c s)) rfl h (by omega)
                  · have h := h.2 hc
                    refine dd_Rn.retK 1 (pc := 19) (ls := [.int a4, .int ((1 : Int32) - a5)]) (st := [.int (-2)]) (M := sM Ln I L c s) (o := (none, .int (-2), sM Ln I L c s)) rfl rfl (dd_Af.ret rfl ?_) (by omega)
                    show dd_Rn (e + 16) m_X11_rests (101, [.ref 148, .int a1, .int a2, .int a3, .int a4, .int a5], [.int (-2), .int 3, .int a3], sM Ln I L c s) _
                    exact dd_Rn.go 9 (cf' := (117, [.ref 148, .int a1, .int a2, .int a3, .int a4, .int a5], [.int ((1 : Int32) <<< ((((2 : Int32) * a4) + a5) &&& 31)), .int a3], sM Ln I L c s)) rfl h (by omega)
              · have h := h.2 hc
                refine dd_Rn.retK 1 (pc := 19) (ls := [.int a4, .int a5]) (st := [.int (-2)]) (M := sM Ln I L c s) (o := (none, .int (-2), sM Ln I L c s)) rfl rfl (dd_Af.ret rfl ?_) (by omega)
                show dd_Rn (e + 16) m_X11_rests (92, [.ref 148, .int a1, .int a2, .int a3, .int a4, .int a5], [.int (-2), .int a3], sM Ln I L c s) _
                refine dd_Rn.sub 4 (pc := 98) (ls := [.ref 148, .int a1, .int a2, .int a3, .int a4, .int a5]) (st := [.int ((1 : Int32) - a5), .int a4, .int (-2), .int a3]) (M := sM Ln I L c s) (x := m_X11_theyHave) (as := [.int a4, .int ((1 : Int32) - a5)]) (rest := [.int (-2), .int a3]) rfl rfl rfl rfl ?_
                show dd_Rn (e + 15) m_X11_theyHave (0, [.int a4, .int ((1 : Int32) - a5)], [], sM Ln I L c s) _
                refine dd_Rn.ite 2 (c := (1 : Int32) - a5 = 1) (A := (5, [.int a4, .int ((1 : Int32) - a5)], [], sM Ln I L c s)) (B := (9, [.int a4, .int ((1 : Int32) - a5)], [], sM Ln I L c s)) rfl (fun hc => ?_) (fun hc => ?_) (by omega)
                · have h := h.1 hc
                  refine dd_Rn.retK 2 (pc := 19) (ls := [.int a4, .int ((1 : Int32) - a5)]) (st := [.int (-1)]) (M := sM Ln I L c s) (o := (none, .int (-1), sM Ln I L c s)) rfl rfl (dd_Af.ret rfl ?_) (by omega)
                  show dd_Rn (e + 16) m_X11_rests (101, [.ref 148, .int a1, .int a2, .int a3, .int a4, .int a5], [.int (-1), .int (-2), .int a3], sM Ln I L c s) _
                  exact dd_Rn.go 1 (cf' := (116, [.ref 148, .int a1, .int a2, .int a3, .int a4, .int a5], [.int a3], sM Ln I L c s)) rfl h (by omega)
                · have h := h.2 hc
                  refine dd_Rn.ite 1 (c := a4 = 0) (A := (13, [.int a4, .int ((1 : Int32) - a5)], [], sM Ln I L c s)) (B := (17, [.int a4, .int ((1 : Int32) - a5)], [], sM Ln I L c s)) rfl (fun hc => ?_) (fun hc => ?_) (by omega)
                  · have h := h.1 hc
                    refine dd_Rn.retK 2 (pc := 19) (ls := [.int a4, .int ((1 : Int32) - a5)]) (st := [.int 3]) (M := sM Ln I L c s) (o := (none, .int 3, sM Ln I L c s)) rfl rfl (dd_Af.ret rfl ?_) (by omega)
                    show dd_Rn (e + 16) m_X11_rests (101, [.ref 148, .int a1, .int a2, .int a3, .int a4, .int a5], [.int 3, .int (-2), .int a3], sM Ln I L c s) _
                    exact dd_Rn.go 1 (cf' := (116, [.ref 148, .int a1, .int a2, .int a3, .int a4, .int a5], [.int a3], sM Ln I L c s)) rfl h (by omega)
                  · have h := h.2 hc
                    refine dd_Rn.retK 1 (pc := 19) (ls := [.int a4, .int ((1 : Int32) - a5)]) (st := [.int (-2)]) (M := sM Ln I L c s) (o := (none, .int (-2), sM Ln I L c s)) rfl rfl (dd_Af.ret rfl ?_) (by omega)
                    show dd_Rn (e + 16) m_X11_rests (101, [.ref 148, .int a1, .int a2, .int a3, .int a4, .int a5], [.int (-2), .int (-2), .int a3], sM Ln I L c s) _
                    exact dd_Rn.go 9 (cf' := (117, [.ref 148, .int a1, .int a2, .int a3, .int a4, .int a5], [.int ((1 : Int32) <<< ((((2 : Int32) * a4) + a5) &&& 31)), .int a3], sM Ln I L c s)) rfl h (by omega)
        · have h := h.2 hc
          refine dd_Rn.ite 1 (c := a5 = 0) (A := (13, [.ref 148, .int a2, .int ((1 : Int32) - a4), .int a5], [], sM Ln I L c s)) (B := (20, [.ref 148, .int a2, .int ((1 : Int32) - a4), .int a5], [], sM Ln I L c s)) rfl (fun hc => ?_) (fun hc => ?_) (by omega)
          · have h := h.1 hc
            refine dd_Rn.retK 4 (pc := 22) (ls := [.ref 148, .int a2, .int ((1 : Int32) - a4), .int a5]) (st := [.int ((9 : Int32) - a2)]) (M := sM Ln I L c s) (o := (none, .int ((9 : Int32) - a2), sM Ln I L c s)) rfl rfl (dd_Af.ret rfl ?_) (by omega)
            show dd_Rn (e + 16) m_X11_rests (82, [.ref 148, .int a1, .int a2, .int a3, .int a4, .int a5], [.int ((9 : Int32) - a2), .int ((9 : Int32) - a2), .int a3], sM Ln I L c s) _
            refine dd_Rn.ite 0 (c := (9 : Int32) - a2 < (9 : Int32) - a2) (A := (116, [.ref 148, .int a1, .int a2, .int a3, .int a4, .int a5], [.int a3], sM Ln I L c s)) (B := (85, [.ref 148, .int a1, .int a2, .int a3, .int a4, .int a5], [.int a3], sM Ln I L c s)) rfl (fun hc => ?_) (fun hc => ?_) (by omega)
            · have h := h.1 hc
              exact dd_Rn.go 0 (cf' := (116, [.ref 148, .int a1, .int a2, .int a3, .int a4, .int a5], [.int a3], sM Ln I L c s)) rfl h (by omega)
            · have h := h.2 hc
              refine dd_Rn.sub 2 (pc := 89) (ls := [.ref 148, .int a1, .int a2, .int a3, .int a4, .int a5]) (st := [.int a5, .int a4, .int a3]) (M := sM Ln I L c s) (x := m_X11_theyHave) (as := [.int a4, .int a5]) (rest := [.int a3]) rfl rfl rfl rfl ?_
              show dd_Rn (e + 15) m_X11_theyHave (0, [.int a4, .int a5], [], sM Ln I L c s) _
              refine dd_Rn.ite 2 (c := a5 = 1) (A := (5, [.int a4, .int a5], [], sM Ln I L c s)) (B := (9, [.int a4, .int a5], [], sM Ln I L c s)) rfl (fun hc => ?_) (fun hc => ?_) (by omega)
              · have h := h.1 hc
                refine dd_Rn.retK 2 (pc := 19) (ls := [.int a4, .int a5]) (st := [.int (-1)]) (M := sM Ln I L c s) (o := (none, .int (-1), sM Ln I L c s)) rfl rfl (dd_Af.ret rfl ?_) (by omega)
                show dd_Rn (e + 16) m_X11_rests (92, [.ref 148, .int a1, .int a2, .int a3, .int a4, .int a5], [.int (-1), .int a3], sM Ln I L c s) _
                refine dd_Rn.sub 4 (pc := 98) (ls := [.ref 148, .int a1, .int a2, .int a3, .int a4, .int a5]) (st := [.int ((1 : Int32) - a5), .int a4, .int (-1), .int a3]) (M := sM Ln I L c s) (x := m_X11_theyHave) (as := [.int a4, .int ((1 : Int32) - a5)]) (rest := [.int (-1), .int a3]) rfl rfl rfl rfl ?_
                show dd_Rn (e + 15) m_X11_theyHave (0, [.int a4, .int ((1 : Int32) - a5)], [], sM Ln I L c s) _
                refine dd_Rn.ite 2 (c := (1 : Int32) - a5 = 1) (A := (5, [.int a4, .int ((1 : Int32) - a5)], [], sM Ln I L c s)) (B := (9, [.int a4, .int ((1 : Int32) - a5)], [], sM Ln I L c s)) rfl (fun hc => ?_) (fun hc => ?_) (by omega)
                · have h := h.1 hc
                  refine dd_Rn.retK 2 (pc := 19) (ls := [.int a4, .int ((1 : Int32) - a5)]) (st := [.int (-1)]) (M := sM Ln I L c s) (o := (none, .int (-1), sM Ln I L c s)) rfl rfl (dd_Af.ret rfl ?_) (by omega)
                  show dd_Rn (e + 16) m_X11_rests (101, [.ref 148, .int a1, .int a2, .int a3, .int a4, .int a5], [.int (-1), .int (-1), .int a3], sM Ln I L c s) _
                  exact dd_Rn.go 9 (cf' := (117, [.ref 148, .int a1, .int a2, .int a3, .int a4, .int a5], [.int ((1 : Int32) <<< ((((2 : Int32) * a4) + a5) &&& 31)), .int a3], sM Ln I L c s)) rfl h (by omega)
                · have h := h.2 hc
                  refine dd_Rn.ite 1 (c := a4 = 0) (A := (13, [.int a4, .int ((1 : Int32) - a5)], [], sM Ln I L c s)) (B := (17, [.int a4, .int ((1 : Int32) - a5)], [], sM Ln I L c s)) rfl (fun hc => ?_) (fun hc => ?_) (by omega)
                  · have h := h.1 hc
                    refine dd_Rn.retK 2 (pc := 19) (ls := [.int a4, .int ((1 : Int32) - a5)]) (st := [.int 3]) (M := sM Ln I L c s) (o := (none, .int 3, sM Ln I L c s)) rfl rfl (dd_Af.ret rfl ?_) (by omega)
                    show dd_Rn (e + 16) m_X11_rests (101, [.ref 148, .int a1, .int a2, .int a3, .int a4, .int a5], [.int 3, .int (-1), .int a3], sM Ln I L c s) _
                    exact dd_Rn.go 1 (cf' := (116, [.ref 148, .int a1, .int a2, .int a3, .int a4, .int a5], [.int a3], sM Ln I L c s)) rfl h (by omega)
                  · have h := h.2 hc
                    refine dd_Rn.retK 1 (pc := 19) (ls := [.int a4, .int ((1 : Int32) - a5)]) (st := [.int (-2)]) (M := sM Ln I L c s) (o := (none, .int (-2), sM Ln I L c s)) rfl rfl (dd_Af.ret rfl ?_) (by omega)
                    show dd_Rn (e + 16) m_X11_rests (101, [.ref 148, .int a1, .int a2, .int a3, .int a4, .int a5], [.int (-2), .int (-1), .int a3], sM Ln I L c s) _
                    exact dd_Rn.go 9 (cf' := (117, [.ref 148, .int a1, .int a2, .int a3, .int a4, .int a5], [.int ((1 : Int32) <<< ((((2 : Int32) * a4) + a5) &&& 31)), .int a3], sM Ln I L c s)) rfl h (by omega)
              · have h := h.2 hc
                refine dd_Rn.ite 1 (c := a4 = 0) (A := (13, [.int a4, .int a5], [], sM Ln I L c s)) (B := (17, [.int a4, .int a5], [], sM Ln I L c s)) rfl (fun hc => ?_) (fun hc => ?_) (by omega)
                · have h := h.1 hc
                  refine dd_Rn.retK 2 (pc := 19) (ls := [.int a4, .int a5]) (st := [.int 3]) (M := sM Ln I L c s) (o := (none, .int 3, sM Ln I L c s)) rfl rfl (dd_Af.ret rfl ?_) (by omega)
                  show dd_Rn (e + 16) m_X11_rests (92, [.ref 148, .int a1, .int a2, .int a3, .int a4, .int a5], [.int 3, .int a3], sM Ln I L c s) _
                  refine dd_Rn.sub 4 (pc := 98) (ls := [.ref 148, .int a1, .int a2, .int a3, .int a4, .int a5]) (st := [.int ((1 : Int32) - a5), .int a4, .int 3, .int a3]) (M := sM Ln I L c s) (x := m_X11_theyHave) (as := [.int a4, .int ((1 : Int32) - a5)]) (rest := [.int 3, .int a3]) rfl rfl rfl rfl ?_
                  show dd_Rn (e + 15) m_X11_theyHave (0, [.int a4, .int ((1 : Int32) - a5)], [], sM Ln I L c s) _
                  refine dd_Rn.ite 2 (c := (1 : Int32) - a5 = 1) (A := (5, [.int a4, .int ((1 : Int32) - a5)], [], sM Ln I L c s)) (B := (9, [.int a4, .int ((1 : Int32) - a5)], [], sM Ln I L c s)) rfl (fun hc => ?_) (fun hc => ?_) (by omega)
                  · have h := h.1 hc
                    refine dd_Rn.retK 2 (pc := 19) (ls := [.int a4, .int ((1 : Int32) - a5)]) (st := [.int (-1)]) (M := sM Ln I L c s) (o := (none, .int (-1), sM Ln I L c s)) rfl rfl (dd_Af.ret rfl ?_) (by omega)
                    show dd_Rn (e + 16) m_X11_rests (101, [.ref 148, .int a1, .int a2, .int a3, .int a4, .int a5], [.int (-1), .int 3, .int a3], sM Ln I L c s) _
                    exact dd_Rn.go 9 (cf' := (117, [.ref 148, .int a1, .int a2, .int a3, .int a4, .int a5], [.int ((1 : Int32) <<< ((((2 : Int32) * a4) + a5) &&& 31)), .int a3], sM Ln I L c s)) rfl h (by omega)
                  · have h := h.2 hc
                    refine dd_Rn.ite 1 (c := a4 = 0) (A := (13, [.int a4, .int ((1 : Int32) - a5)], [], sM Ln I L c s)) (B := (17, [.int a4, .int ((1 : Int32) - a5)], [], sM Ln I L c s)) rfl (fun hc => ?_) (fun hc => ?_) (by omega)
                    · have h := h.1 hc
                      refine dd_Rn.retK 2 (pc := 19) (ls := [.int a4, .int ((1 : Int32) - a5)]) (st := [.int 3]) (M := sM Ln I L c s) (o := (none, .int 3, sM Ln I L c s)) rfl rfl (dd_Af.ret rfl ?_) (by omega)
                      show dd_Rn (e + 16) m_X11_rests (101, [.ref 148, .int a1, .int a2, .int a3, .int a4, .int a5], [.int 3, .int 3, .int a3], sM Ln I L c s) _
                      exact dd_Rn.go 9 (cf' := (117, [.ref 148, .int a1, .int a2, .int a3, .int a4, .int a5], [.int ((1 : Int32) <<< ((((2 : Int32) * a4) + a5) &&& 31)), .int a3], sM Ln I L c s)) rfl h (by omega)
                    · have h := h.2 hc
                      refine dd_Rn.retK 1 (pc := 19) (ls := [.int a4, .int ((1 : Int32) - a5)]) (st := [.int (-2)]) (M := sM Ln I L c s) (o := (none, .int (-2), sM Ln I L c s)) rfl rfl (dd_Af.ret rfl ?_) (by omega)
                      show dd_Rn (e + 16) m_X11_rests (101, [.ref 148, .int a1, .int a2, .int a3, .int a4, .int a5], [.int (-2), .int 3, .int a3], sM Ln I L c s) _
                      exact dd_Rn.go 9 (cf' := (117, [.ref 148, .int a1, .int a2, .int a3, .int a4, .int a5], [.int ((1 : Int32) <<< ((((2 : Int32) * a4) + a5) &&& 31)), .int a3], sM Ln I L c s)) rfl h (by omega)
                · have h := h.2 hc
                  refine dd_Rn.retK 1 (pc := 19) (ls := [.int a4, .int a5]) (st := [.int (-2)]) (M := sM Ln I L c s) (o := (none, .int (-2), sM Ln I L c s)) rfl rfl (dd_Af.ret rfl ?_) (by omega)
                  show dd_Rn (e + 16) m_X11_rests (92, [.ref 148, .int a1, .int a2, .int a3, .int a4, .int a5], [.int (-2), .int a3], sM Ln I L c s) _
                  refine dd_Rn.sub 4 (pc := 98) (ls := [.ref 148, .int a1, .int a2, .int a3, .int a4, .int a5]) (st := [.int ((1 : Int32) - a5), .int a4, .int (-2), .int a3]) (M := sM Ln I L c s) (x := m_X11_theyHave) (as := [.int a4, .int ((1 : Int32) - a5)]) (rest := [.int (-2), .int a3]) rfl rfl rfl rfl ?_
                  show dd_Rn (e + 15) m_X11_theyHave (0, [.int a4, .int ((1 : Int32) - a5)], [], sM Ln I L c s) _
                  refine dd_Rn.ite 2 (c := (1 : Int32) - a5 = 1) (A := (5, [.int a4, .int ((1 : Int32) - a5)], [], sM Ln I L c s)) (B := (9, [.int a4, .int ((1 : Int32) - a5)], [], sM Ln I L c s)) rfl (fun hc => ?_) (fun hc => ?_) (by omega)
                  · have h := h.1 hc
                    refine dd_Rn.retK 2 (pc := 19) (ls := [.int a4, .int ((1 : Int32) - a5)]) (st := [.int (-1)]) (M := sM Ln I L c s) (o := (none, .int (-1), sM Ln I L c s)) rfl rfl (dd_Af.ret rfl ?_) (by omega)
                    show dd_Rn (e + 16) m_X11_rests (101, [.ref 148, .int a1, .int a2, .int a3, .int a4, .int a5], [.int (-1), .int (-2), .int a3], sM Ln I L c s) _
                    exact dd_Rn.go 1 (cf' := (116, [.ref 148, .int a1, .int a2, .int a3, .int a4, .int a5], [.int a3], sM Ln I L c s)) rfl h (by omega)
                  · have h := h.2 hc
                    refine dd_Rn.ite 1 (c := a4 = 0) (A := (13, [.int a4, .int ((1 : Int32) - a5)], [], sM Ln I L c s)) (B := (17, [.int a4, .int ((1 : Int32) - a5)], [], sM Ln I L c s)) rfl (fun hc => ?_) (fun hc => ?_) (by omega)
                    · have h := h.1 hc
                      refine dd_Rn.retK 2 (pc := 19) (ls := [.int a4, .int ((1 : Int32) - a5)]) (st := [.int 3]) (M := sM Ln I L c s) (o := (none, .int 3, sM Ln I L c s)) rfl rfl (dd_Af.ret rfl ?_) (by omega)
                      show dd_Rn (e + 16) m_X11_rests (101, [.ref 148, .int a1, .int a2, .int a3, .int a4, .int a5], [.int 3, .int (-2), .int a3], sM Ln I L c s) _
                      exact dd_Rn.go 1 (cf' := (116, [.ref 148, .int a1, .int a2, .int a3, .int a4, .int a5], [.int a3], sM Ln I L c s)) rfl h (by omega)
                    · have h := h.2 hc
                      refine dd_Rn.retK 1 (pc := 19) (ls := [.int a4, .int ((1 : Int32) - a5)]) (st := [.int (-2)]) (M := sM Ln I L c s) (o := (none, .int (-2), sM Ln I L c s)) rfl rfl (dd_Af.ret rfl ?_) (by omega)
                      show dd_Rn (e + 16) m_X11_rests (101, [.ref 148, .int a1, .int a2, .int a3, .int a4, .int a5], [.int (-2), .int (-2), .int a3], sM Ln I L c s) _
                      exact dd_Rn.go 9 (cf' := (117, [.ref 148, .int a1, .int a2, .int a3, .int a4, .int a5], [.int ((1 : Int32) <<< ((((2 : Int32) * a4) + a5) &&& 31)), .int a3], sM Ln I L c s)) rfl h (by omega)
          · have h := h.2 hc
            refine dd_Rn.retK 1 (pc := 22) (ls := [.ref 148, .int a2, .int ((1 : Int32) - a4), .int a5]) (st := [.int (-3)]) (M := sM Ln I L c s) (o := (none, .int (-3), sM Ln I L c s)) rfl rfl (dd_Af.ret rfl ?_) (by omega)
            show dd_Rn (e + 16) m_X11_rests (82, [.ref 148, .int a1, .int a2, .int a3, .int a4, .int a5], [.int (-3), .int ((9 : Int32) - a2), .int a3], sM Ln I L c s) _
            refine dd_Rn.ite 0 (c := (9 : Int32) - a2 < (-3)) (A := (116, [.ref 148, .int a1, .int a2, .int a3, .int a4, .int a5], [.int a3], sM Ln I L c s)) (B := (85, [.ref 148, .int a1, .int a2, .int a3, .int a4, .int a5], [.int a3], sM Ln I L c s)) rfl (fun hc => ?_) (fun hc => ?_) (by omega)
            · have h := h.1 hc
              exact dd_Rn.go 0 (cf' := (116, [.ref 148, .int a1, .int a2, .int a3, .int a4, .int a5], [.int a3], sM Ln I L c s)) rfl h (by omega)
            · have h := h.2 hc
              refine dd_Rn.sub 2 (pc := 89) (ls := [.ref 148, .int a1, .int a2, .int a3, .int a4, .int a5]) (st := [.int a5, .int a4, .int a3]) (M := sM Ln I L c s) (x := m_X11_theyHave) (as := [.int a4, .int a5]) (rest := [.int a3]) rfl rfl rfl rfl ?_
              show dd_Rn (e + 15) m_X11_theyHave (0, [.int a4, .int a5], [], sM Ln I L c s) _
              refine dd_Rn.ite 2 (c := a5 = 1) (A := (5, [.int a4, .int a5], [], sM Ln I L c s)) (B := (9, [.int a4, .int a5], [], sM Ln I L c s)) rfl (fun hc => ?_) (fun hc => ?_) (by omega)
              · have h := h.1 hc
                refine dd_Rn.retK 2 (pc := 19) (ls := [.int a4, .int a5]) (st := [.int (-1)]) (M := sM Ln I L c s) (o := (none, .int (-1), sM Ln I L c s)) rfl rfl (dd_Af.ret rfl ?_) (by omega)
                show dd_Rn (e + 16) m_X11_rests (92, [.ref 148, .int a1, .int a2, .int a3, .int a4, .int a5], [.int (-1), .int a3], sM Ln I L c s) _
                refine dd_Rn.sub 4 (pc := 98) (ls := [.ref 148, .int a1, .int a2, .int a3, .int a4, .int a5]) (st := [.int ((1 : Int32) - a5), .int a4, .int (-1), .int a3]) (M := sM Ln I L c s) (x := m_X11_theyHave) (as := [.int a4, .int ((1 : Int32) - a5)]) (rest := [.int (-1), .int a3]) rfl rfl rfl rfl ?_
                show dd_Rn (e + 15) m_X11_theyHave (0, [.int a4, .int ((1 : Int32) - a5)], [], sM Ln I L c s) _
                refine dd_Rn.ite 2 (c := (1 : Int32) - a5 = 1) (A := (5, [.int a4, .int ((1 : Int32) - a5)], [], sM Ln I L c s)) (B := (9, [.int a4, .int ((1 : Int32) - a5)], [], sM Ln I L c s)) rfl (fun hc => ?_) (fun hc => ?_) (by omega)
                · have h := h.1 hc
                  refine dd_Rn.retK 2 (pc := 19) (ls := [.int a4, .int ((1 : Int32) - a5)]) (st := [.int (-1)]) (M := sM Ln I L c s) (o := (none, .int (-1), sM Ln I L c s)) rfl rfl (dd_Af.ret rfl ?_) (by omega)
                  show dd_Rn (e + 16) m_X11_rests (101, [.ref 148, .int a1, .int a2, .int a3, .int a4, .int a5], [.int (-1), .int (-1), .int a3], sM Ln I L c s) _
                  exact dd_Rn.go 9 (cf' := (117, [.ref 148, .int a1, .int a2, .int a3, .int a4, .int a5], [.int ((1 : Int32) <<< ((((2 : Int32) * a4) + a5) &&& 31)), .int a3], sM Ln I L c s)) rfl h (by omega)
                · have h := h.2 hc
                  refine dd_Rn.ite 1 (c := a4 = 0) (A := (13, [.int a4, .int ((1 : Int32) - a5)], [], sM Ln I L c s)) (B := (17, [.int a4, .int ((1 : Int32) - a5)], [], sM Ln I L c s)) rfl (fun hc => ?_) (fun hc => ?_) (by omega)
                  · have h := h.1 hc
                    refine dd_Rn.retK 2 (pc := 19) (ls := [.int a4, .int ((1 : Int32) - a5)]) (st := [.int 3]) (M := sM Ln I L c s) (o := (none, .int 3, sM Ln I L c s)) rfl rfl (dd_Af.ret rfl ?_) (by omega)
                    show dd_Rn (e + 16) m_X11_rests (101, [.ref 148, .int a1, .int a2, .int a3, .int a4, .int a5], [.int 3, .int (-1), .int a3], sM Ln I L c s) _
                    exact dd_Rn.go 1 (cf' := (116, [.ref 148, .int a1, .int a2, .int a3, .int a4, .int a5], [.int a3], sM Ln I L c s)) rfl h (by omega)
                  · have h := h.2 hc
                    refine dd_Rn.retK 1 (pc := 19) (ls := [.int a4, .int ((1 : Int32) - a5)]) (st := [.int (-2)]) (M := sM Ln I L c s) (o := (none, .int (-2), sM Ln I L c s)) rfl rfl (dd_Af.ret rfl ?_) (by omega)
                    show dd_Rn (e + 16) m_X11_rests (101, [.ref 148, .int a1, .int a2, .int a3, .int a4, .int a5], [.int (-2), .int (-1), .int a3], sM Ln I L c s) _
                    exact dd_Rn.go 9 (cf' := (117, [.ref 148, .int a1, .int a2, .int a3, .int a4, .int a5], [.int ((1 : Int32) <<< ((((2 : Int32) * a4) + a5) &&& 31)), .int a3], sM Ln I L c s)) rfl h (by omega)
              · have h := h.2 hc
                refine dd_Rn.ite 1 (c := a4 = 0) (A := (13, [.int a4, .int a5], [], sM Ln I L c s)) (B := (17, [.int a4, .int a5], [], sM Ln I L c s)) rfl (fun hc => ?_) (fun hc => ?_) (by omega)
                · have h := h.1 hc
                  refine dd_Rn.retK 2 (pc := 19) (ls := [.int a4, .int a5]) (st := [.int 3]) (M := sM Ln I L c s) (o := (none, .int 3, sM Ln I L c s)) rfl rfl (dd_Af.ret rfl ?_) (by omega)
                  show dd_Rn (e + 16) m_X11_rests (92, [.ref 148, .int a1, .int a2, .int a3, .int a4, .int a5], [.int 3, .int a3], sM Ln I L c s) _
                  refine dd_Rn.sub 4 (pc := 98) (ls := [.ref 148, .int a1, .int a2, .int a3, .int a4, .int a5]) (st := [.int ((1 : Int32) - a5), .int a4, .int 3, .int a3]) (M := sM Ln I L c s) (x := m_X11_theyHave) (as := [.int a4, .int ((1 : Int32) - a5)]) (rest := [.int 3, .int a3]) rfl rfl rfl rfl ?_
                  show dd_Rn (e + 15) m_X11_theyHave (0, [.int a4, .int ((1 : Int32) - a5)], [], sM Ln I L c s) _
                  refine dd_Rn.ite 2 (c := (1 : Int32) - a5 = 1) (A := (5, [.int a4, .int ((1 : Int32) - a5)], [], sM Ln I L c s)) (B := (9, [.int a4, .int ((1 : Int32) - a5)], [], sM Ln I L c s)) rfl (fun hc => ?_) (fun hc => ?_) (by omega)
                  · have h := h.1 hc
                    refine dd_Rn.retK 2 (pc := 19) (ls := [.int a4, .int ((1 : Int32) - a5)]) (st := [.int (-1)]) (M := sM Ln I L c s) (o := (none, .int (-1), sM Ln I L c s)) rfl rfl (dd_Af.ret rfl ?_) (by omega)
                    show dd_Rn (e + 16) m_X11_rests (101, [.ref 148, .int a1, .int a2, .int a3, .int a4, .int a5], [.int (-1), .int 3, .int a3], sM Ln I L c s) _
                    exact dd_Rn.go 9 (cf' := (117, [.ref 148, .int a1, .int a2, .int a3, .int a4, .int a5], [.int ((1 : Int32) <<< ((((2 : Int32) * a4) + a5) &&& 31)), .int a3], sM Ln I L c s)) rfl h (by omega)
                  · have h := h.2 hc
                    refine dd_Rn.ite 1 (c := a4 = 0) (A := (13, [.int a4, .int ((1 : Int32) - a5)], [], sM Ln I L c s)) (B := (17, [.int a4, .int ((1 : Int32) - a5)], [], sM Ln I L c s)) rfl (fun hc => ?_) (fun hc => ?_) (by omega)
                    · have h := h.1 hc
                      refine dd_Rn.retK 2 (pc := 19) (ls := [.int a4, .int ((1 : Int32) - a5)]) (st := [.int 3]) (M := sM Ln I L c s) (o := (none, .int 3, sM Ln I L c s)) rfl rfl (dd_Af.ret rfl ?_) (by omega)
                      show dd_Rn (e + 16) m_X11_rests (101, [.ref 148, .int a1, .int a2, .int a3, .int a4, .int a5], [.int 3, .int 3, .int a3], sM Ln I L c s) _
                      exact dd_Rn.go 9 (cf' := (117, [.ref 148, .int a1, .int a2, .int a3, .int a4, .int a5], [.int ((1 : Int32) <<< ((((2 : Int32) * a4) + a5) &&& 31)), .int a3], sM Ln I L c s)) rfl h (by omega)
                    · have h := h.2 hc
                      refine dd_Rn.retK 1 (pc := 19) (ls := [.int a4, .int ((1 : Int32) - a5)]) (st := [.int (-2)]) (M := sM Ln I L c s) (o := (none, .int (-2), sM Ln I L c s)) rfl rfl (dd_Af.ret rfl ?_) (by omega)
                      show dd_Rn (e + 16) m_X11_rests (101, [.ref 148, .int a1, .int a2, .int a3, .int a4, .int a5], [.int (-2), .int 3, .int a3], sM Ln I L c s) _
                      exact dd_Rn.go 9 (cf' := (117, [.ref 148, .int a1, .int a2, .int a3, .int a4, .int a5], [.int ((1 : Int32) <<< ((((2 : Int32) * a4) + a5) &&& 31)), .int a3], sM Ln I L c s)) rfl h (by omega)
                · have h := h.2 hc
                  refine dd_Rn.retK 1 (pc := 19) (ls := [.int a4, .int a5]) (st := [.int (-2)]) (M := sM Ln I L c s) (o := (none, .int (-2), sM Ln I L c s)) rfl rfl (dd_Af.ret rfl ?_) (by omega)
                  show dd_Rn (e + 16) m_X11_rests (92, [.ref 148, .int a1, .int a2, .int a3, .int a4, .int a5], [.int (-2), .int a3], sM Ln I L c s) _
                  refine dd_Rn.sub 4 (pc := 98) (ls := [.ref 148, .int a1, .int a2, .int a3, .int a4, .int a5]) (st := [.int ((1 : Int32) - a5), .int a4, .int (-2), .int a3]) (M := sM Ln I L c s) (x := m_X11_theyHave) (as := [.int a4, .int ((1 : Int32) - a5)]) (rest := [.int (-2), .int a3]) rfl rfl rfl rfl ?_
                  show dd_Rn (e + 15) m_X11_theyHave (0, [.int a4, .int ((1 : Int32) - a5)], [], sM Ln I L c s) _
                  refine dd_Rn.ite 2 (c := (1 : Int32) - a5 = 1) (A := (5, [.int a4, .int ((1 : Int32) - a5)], [], sM Ln I L c s)) (B := (9, [.int a4, .int ((1 : Int32) - a5)], [], sM Ln I L c s)) rfl (fun hc => ?_) (fun hc => ?_) (by omega)
                  · have h := h.1 hc
                    refine dd_Rn.retK 2 (pc := 19) (ls := [.int a4, .int ((1 : Int32) - a5)]) (st := [.int (-1)]) (M := sM Ln I L c s) (o := (none, .int (-1), sM Ln I L c s)) rfl rfl (dd_Af.ret rfl ?_) (by omega)
                    show dd_Rn (e + 16) m_X11_rests (101, [.ref 148, .int a1, .int a2, .int a3, .int a4, .int a5], [.int (-1), .int (-2), .int a3], sM Ln I L c s) _
                    exact dd_Rn.go 1 (cf' := (116, [.ref 148, .int a1, .int a2, .int a3, .int a4, .int a5], [.int a3], sM Ln I L c s)) rfl h (by omega)
                  · have h := h.2 hc
                    refine dd_Rn.ite 1 (c := a4 = 0) (A := (13, [.int a4, .int ((1 : Int32) - a5)], [], sM Ln I L c s)) (B := (17, [.int a4, .int ((1 : Int32) - a5)], [], sM Ln I L c s)) rfl (fun hc => ?_) (fun hc => ?_) (by omega)
                    · have h := h.1 hc
                      refine dd_Rn.retK 2 (pc := 19) (ls := [.int a4, .int ((1 : Int32) - a5)]) (st := [.int 3]) (M := sM Ln I L c s) (o := (none, .int 3, sM Ln I L c s)) rfl rfl (dd_Af.ret rfl ?_) (by omega)
                      show dd_Rn (e + 16) m_X11_rests (101, [.ref 148, .int a1, .int a2, .int a3, .int a4, .int a5], [.int 3, .int (-2), .int a3], sM Ln I L c s) _
                      exact dd_Rn.go 1 (cf' := (116, [.ref 148, .int a1, .int a2, .int a3, .int a4, .int a5], [.int a3], sM Ln I L c s)) rfl h (by omega)
                    · have h := h.2 hc
                      refine dd_Rn.retK 1 (pc := 19) (ls := [.int a4, .int ((1 : Int32) - a5)]) (st := [.int (-2)]) (M := sM Ln I L c s) (o := (none, .int (-2), sM Ln I L c s)) rfl rfl (dd_Af.ret rfl ?_) (by omega)
                      show dd_Rn (e + 16) m_X11_rests (101, [.ref 148, .int a1, .int a2, .int a3, .int a4, .int a5], [.int (-2), .int (-2), .int a3], sM Ln I L c s) _
                      exact dd_Rn.go 9 (cf' := (117, [.ref 148, .int a1, .int a2, .int a3, .int a4, .int a5], [.int ((1 : Int32) <<< ((((2 : Int32) * a4) + a5) &&& 31)), .int a3], sM Ln I L c s)) rfl h (by omega)
      · have h := h.2 hc
        refine dd_Rn.retK 1 (pc := 22) (ls := [.ref 148, .int a2, .int a4, .int a5]) (st := [.int (-3)]) (M := sM Ln I L c s) (o := (none, .int (-3), sM Ln I L c s)) rfl rfl (dd_Af.ret rfl ?_) (by omega)
        show dd_Rn (e + 16) m_X11_rests (71, [.ref 148, .int a1, .int a2, .int a3, .int a4, .int a5], [.int (-3), .int a3], sM Ln I L c s) _
        refine dd_Rn.sub 6 (pc := 79) (ls := [.ref 148, .int a1, .int a2, .int a3, .int a4, .int a5]) (st := [.int a5, .int ((1 : Int32) - a4), .int a2, .ref 148, .int (-3), .int a3]) (M := sM Ln I L c s) (x := m_X11_boyHas) (as := [.ref 148, .int a2, .int ((1 : Int32) - a4), .int a5]) (rest := [.int (-3), .int a3]) rfl rfl rfl rfl ?_
        show dd_Rn (e + 15) m_X11_boyHas (0, [.ref 148, .int a2, .int ((1 : Int32) - a4), .int a5], [], sM Ln I L c s) _
        refine dd_Rn.ite 2 (c := (1 : Int32) - a4 = 1) (A := (5, [.ref 148, .int a2, .int ((1 : Int32) - a4), .int a5], [], sM Ln I L c s)) (B := (9, [.ref 148, .int a2, .int ((1 : Int32) - a4), .int a5], [], sM Ln I L c s)) rfl (fun hc => ?_) (fun hc => ?_) (by omega)
        · have h := h.1 hc
          refine dd_Rn.retK 3 (pc := 8) (ls := [.ref 148, .int a2, .int ((1 : Int32) - a4), .int a5]) (st := [.int ((1 : Int32) - a5)]) (M := sM Ln I L c s) (o := (none, .int ((1 : Int32) - a5), sM Ln I L c s)) rfl rfl (dd_Af.ret rfl ?_) (by omega)
          show dd_Rn (e + 16) m_X11_rests (82, [.ref 148, .int a1, .int a2, .int a3, .int a4, .int a5], [.int ((1 : Int32) - a5), .int (-3), .int a3], sM Ln I L c s) _
          refine dd_Rn.ite 0 (c := (-3 : Int32) < (1 : Int32) - a5) (A := (116, [.ref 148, .int a1, .int a2, .int a3, .int a4, .int a5], [.int a3], sM Ln I L c s)) (B := (85, [.ref 148, .int a1, .int a2, .int a3, .int a4, .int a5], [.int a3], sM Ln I L c s)) rfl (fun hc => ?_) (fun hc => ?_) (by omega)
          · have h := h.1 hc
            exact dd_Rn.go 0 (cf' := (116, [.ref 148, .int a1, .int a2, .int a3, .int a4, .int a5], [.int a3], sM Ln I L c s)) rfl h (by omega)
          · have h := h.2 hc
            refine dd_Rn.sub 2 (pc := 89) (ls := [.ref 148, .int a1, .int a2, .int a3, .int a4, .int a5]) (st := [.int a5, .int a4, .int a3]) (M := sM Ln I L c s) (x := m_X11_theyHave) (as := [.int a4, .int a5]) (rest := [.int a3]) rfl rfl rfl rfl ?_
            show dd_Rn (e + 15) m_X11_theyHave (0, [.int a4, .int a5], [], sM Ln I L c s) _
            refine dd_Rn.ite 2 (c := a5 = 1) (A := (5, [.int a4, .int a5], [], sM Ln I L c s)) (B := (9, [.int a4, .int a5], [], sM Ln I L c s)) rfl (fun hc => ?_) (fun hc => ?_) (by omega)
            · have h := h.1 hc
              refine dd_Rn.retK 2 (pc := 19) (ls := [.int a4, .int a5]) (st := [.int (-1)]) (M := sM Ln I L c s) (o := (none, .int (-1), sM Ln I L c s)) rfl rfl (dd_Af.ret rfl ?_) (by omega)
              show dd_Rn (e + 16) m_X11_rests (92, [.ref 148, .int a1, .int a2, .int a3, .int a4, .int a5], [.int (-1), .int a3], sM Ln I L c s) _
              refine dd_Rn.sub 4 (pc := 98) (ls := [.ref 148, .int a1, .int a2, .int a3, .int a4, .int a5]) (st := [.int ((1 : Int32) - a5), .int a4, .int (-1), .int a3]) (M := sM Ln I L c s) (x := m_X11_theyHave) (as := [.int a4, .int ((1 : Int32) - a5)]) (rest := [.int (-1), .int a3]) rfl rfl rfl rfl ?_
              show dd_Rn (e + 15) m_X11_theyHave (0, [.int a4, .int ((1 : Int32) - a5)], [], sM Ln I L c s) _
              refine dd_Rn.ite 2 (c := (1 : Int32) - a5 = 1) (A := (5, [.int a4, .int ((1 : Int32) - a5)], [], sM Ln I L c s)) (B := (9, [.int a4, .int ((1 : Int32) - a5)], [], sM Ln I L c s)) rfl (fun hc => ?_) (fun hc => ?_) (by omega)
              · have h := h.1 hc
                refine dd_Rn.retK 2 (pc := 19) (ls := [.int a4, .int ((1 : Int32) - a5)]) (st := [.int (-1)]) (M := sM Ln I L c s) (o := (none, .int (-1), sM Ln I L c s)) rfl rfl (dd_Af.ret rfl ?_) (by omega)
                show dd_Rn (e + 16) m_X11_rests (101, [.ref 148, .int a1, .int a2, .int a3, .int a4, .int a5], [.int (-1), .int (-1), .int a3], sM Ln I L c s) _
                exact dd_Rn.go 9 (cf' := (117, [.ref 148, .int a1, .int a2, .int a3, .int a4, .int a5], [.int ((1 : Int32) <<< ((((2 : Int32) * a4) + a5) &&& 31)), .int a3], sM Ln I L c s)) rfl h (by omega)
              · have h := h.2 hc
                refine dd_Rn.ite 1 (c := a4 = 0) (A := (13, [.int a4, .int ((1 : Int32) - a5)], [], sM Ln I L c s)) (B := (17, [.int a4, .int ((1 : Int32) - a5)], [], sM Ln I L c s)) rfl (fun hc => ?_) (fun hc => ?_) (by omega)
                · have h := h.1 hc
                  refine dd_Rn.retK 2 (pc := 19) (ls := [.int a4, .int ((1 : Int32) - a5)]) (st := [.int 3]) (M := sM Ln I L c s) (o := (none, .int 3, sM Ln I L c s)) rfl rfl (dd_Af.ret rfl ?_) (by omega)
                  show dd_Rn (e + 16) m_X11_rests (101, [.ref 148, .int a1, .int a2, .int a3, .int a4, .int a5], [.int 3, .int (-1), .int a3], sM Ln I L c s) _
                  exact dd_Rn.go 1 (cf' := (116, [.ref 148, .int a1, .int a2, .int a3, .int a4, .int a5], [.int a3], sM Ln I L c s)) rfl h (by omega)
                · have h := h.2 hc
                  refine dd_Rn.retK 1 (pc := 19) (ls := [.int a4, .int ((1 : Int32) - a5)]) (st := [.int (-2)]) (M := sM Ln I L c s) (o := (none, .int (-2), sM Ln I L c s)) rfl rfl (dd_Af.ret rfl ?_) (by omega)
                  show dd_Rn (e + 16) m_X11_rests (101, [.ref 148, .int a1, .int a2, .int a3, .int a4, .int a5], [.int (-2), .int (-1), .int a3], sM Ln I L c s) _
                  exact dd_Rn.go 9 (cf' := (117, [.ref 148, .int a1, .int a2, .int a3, .int a4, .int a5], [.int ((1 : Int32) <<< ((((2 : Int32) * a4) + a5) &&& 31)), .int a3], sM Ln I L c s)) rfl h (by omega)
            · have h := h.2 hc
              refine dd_Rn.ite 1 (c := a4 = 0) (A := (13, [.int a4, .int a5], [], sM Ln I L c s)) (B := (17, [.int a4, .int a5], [], sM Ln I L c s)) rfl (fun hc => ?_) (fun hc => ?_) (by omega)
              · have h := h.1 hc
                refine dd_Rn.retK 2 (pc := 19) (ls := [.int a4, .int a5]) (st := [.int 3]) (M := sM Ln I L c s) (o := (none, .int 3, sM Ln I L c s)) rfl rfl (dd_Af.ret rfl ?_) (by omega)
                show dd_Rn (e + 16) m_X11_rests (92, [.ref 148, .int a1, .int a2, .int a3, .int a4, .int a5], [.int 3, .int a3], sM Ln I L c s) _
                refine dd_Rn.sub 4 (pc := 98) (ls := [.ref 148, .int a1, .int a2, .int a3, .int a4, .int a5]) (st := [.int ((1 : Int32) - a5), .int a4, .int 3, .int a3]) (M := sM Ln I L c s) (x := m_X11_theyHave) (as := [.int a4, .int ((1 : Int32) - a5)]) (rest := [.int 3, .int a3]) rfl rfl rfl rfl ?_
                show dd_Rn (e + 15) m_X11_theyHave (0, [.int a4, .int ((1 : Int32) - a5)], [], sM Ln I L c s) _
                refine dd_Rn.ite 2 (c := (1 : Int32) - a5 = 1) (A := (5, [.int a4, .int ((1 : Int32) - a5)], [], sM Ln I L c s)) (B := (9, [.int a4, .int ((1 : Int32) - a5)], [], sM Ln I L c s)) rfl (fun hc => ?_) (fun hc => ?_) (by omega)
                · have h := h.1 hc
                  refine dd_Rn.retK 2 (pc := 19) (ls := [.int a4, .int ((1 : Int32) - a5)]) (st := [.int (-1)]) (M := sM Ln I L c s) (o := (none, .int (-1), sM Ln I L c s)) rfl rfl (dd_Af.ret rfl ?_) (by omega)
                  show dd_Rn (e + 16) m_X11_rests (101, [.ref 148, .int a1, .int a2, .int a3, .int a4, .int a5], [.int (-1), .int 3, .int a3], sM Ln I L c s) _
                  exact dd_Rn.go 9 (cf' := (117, [.ref 148, .int a1, .int a2, .int a3, .int a4, .int a5], [.int ((1 : Int32) <<< ((((2 : Int32) * a4) + a5) &&& 31)), .int a3], sM Ln I L c s)) rfl h (by omega)
                · have h := h.2 hc
                  refine dd_Rn.ite 1 (c := a4 = 0) (A := (13, [.int a4, .int ((1 : Int32) - a5)], [], sM Ln I L c s)) (B := (17, [.int a4, .int ((1 : Int32) - a5)], [], sM Ln I L c s)) rfl (fun hc => ?_) (fun hc => ?_) (by omega)
                  · have h := h.1 hc
                    refine dd_Rn.retK 2 (pc := 19) (ls := [.int a4, .int ((1 : Int32) - a5)]) (st := [.int 3]) (M := sM Ln I L c s) (o := (none, .int 3, sM Ln I L c s)) rfl rfl (dd_Af.ret rfl ?_) (by omega)
                    show dd_Rn (e + 16) m_X11_rests (101, [.ref 148, .int a1, .int a2, .int a3, .int a4, .int a5], [.int 3, .int 3, .int a3], sM Ln I L c s) _
                    exact dd_Rn.go 9 (cf' := (117, [.ref 148, .int a1, .int a2, .int a3, .int a4, .int a5], [.int ((1 : Int32) <<< ((((2 : Int32) * a4) + a5) &&& 31)), .int a3], sM Ln I L c s)) rfl h (by omega)
                  · have h := h.2 hc
                    refine dd_Rn.retK 1 (pc := 19) (ls := [.int a4, .int ((1 : Int32) - a5)]) (st := [.int (-2)]) (M := sM Ln I L c s) (o := (none, .int (-2), sM Ln I L c s)) rfl rfl (dd_Af.ret rfl ?_) (by omega)
                    show dd_Rn (e + 16) m_X11_rests (101, [.ref 148, .int a1, .int a2, .int a3, .int a4, .int a5], [.int (-2), .int 3, .int a3], sM Ln I L c s) _
                    exact dd_Rn.go 9 (cf' := (117, [.ref 148, .int a1, .int a2, .int a3, .int a4, .int a5], [.int ((1 : Int32) <<< ((((2 : Int32) * a4) + a5) &&& 31)), .int a3], sM Ln I L c s)) rfl h (by omega)
              · have h := h.2 hc
                refine dd_Rn.retK 1 (pc := 19) (ls := [.int a4, .int a5]) (st := [.int (-2)]) (M := sM Ln I L c s) (o := (none, .int (-2), sM Ln I L c s)) rfl rfl (dd_Af.ret rfl ?_) (by omega)
                show dd_Rn (e + 16) m_X11_rests (92, [.ref 148, .int a1, .int a2, .int a3, .int a4, .int a5], [.int (-2), .int a3], sM Ln I L c s) _
                refine dd_Rn.sub 4 (pc := 98) (ls := [.ref 148, .int a1, .int a2, .int a3, .int a4, .int a5]) (st := [.int ((1 : Int32) - a5), .int a4, .int (-2), .int a3]) (M := sM Ln I L c s) (x := m_X11_theyHave) (as := [.int a4, .int ((1 : Int32) - a5)]) (rest := [.int (-2), .int a3]) rfl rfl rfl rfl ?_
                show dd_Rn (e + 15) m_X11_theyHave (0, [.int a4, .int ((1 : Int32) - a5)], [], sM Ln I L c s) _
                refine dd_Rn.ite 2 (c := (1 : Int32) - a5 = 1) (A := (5, [.int a4, .int ((1 : Int32) - a5)], [], sM Ln I L c s)) (B := (9, [.int a4, .int ((1 : Int32) - a5)], [], sM Ln I L c s)) rfl (fun hc => ?_) (fun hc => ?_) (by omega)
                · have h := h.1 hc
                  refine dd_Rn.retK 2 (pc := 19) (ls := [.int a4, .int ((1 : Int32) - a5)]) (st := [.int (-1)]) (M := sM Ln I L c s) (o := (none, .int (-1), sM Ln I L c s)) rfl rfl (dd_Af.ret rfl ?_) (by omega)
                  show dd_Rn (e + 16) m_X11_rests (101, [.ref 148, .int a1, .int a2, .int a3, .int a4, .int a5], [.int (-1), .int (-2), .int a3], sM Ln I L c s) _
                  exact dd_Rn.go 1 (cf' := (116, [.ref 148, .int a1, .int a2, .int a3, .int a4, .int a5], [.int a3], sM Ln I L c s)) rfl h (by omega)
                · have h := h.2 hc
                  refine dd_Rn.ite 1 (c := a4 = 0) (A := (13, [.int a4, .int ((1 : Int32) - a5)], [], sM Ln I L c s)) (B := (17, [.int a4, .int ((1 : Int32) - a5)], [], sM Ln I L c s)) rfl (fun hc => ?_) (fun hc => ?_) (by omega)
                  · have h := h.1 hc
                    refine dd_Rn.retK 2 (pc := 19) (ls := [.int a4, .int ((1 : Int32) - a5)]) (st := [.int 3]) (M := sM Ln I L c s) (o := (none, .int 3, sM Ln I L c s)) rfl rfl (dd_Af.ret rfl ?_) (by omega)
                    show dd_Rn (e + 16) m_X11_rests (101, [.ref 148, .int a1, .int a2, .int a3, .int a4, .int a5], [.int 3, .int (-2), .int a3], sM Ln I L c s) _
                    exact dd_Rn.go 1 (cf' := (116, [.ref 148, .int a1, .int a2, .int a3, .int a4, .int a5], [.int a3], sM Ln I L c s)) rfl h (by omega)
                  · have h := h.2 hc
                    refine dd_Rn.retK 1 (pc := 19) (ls := [.int a4, .int ((1 : Int32) - a5)]) (st := [.int (-2)]) (M := sM Ln I L c s) (o := (none, .int (-2), sM Ln I L c s)) rfl rfl (dd_Af.ret rfl ?_) (by omega)
                    show dd_Rn (e + 16) m_X11_rests (101, [.ref 148, .int a1, .int a2, .int a3, .int a4, .int a5], [.int (-2), .int (-2), .int a3], sM Ln I L c s) _
                    exact dd_Rn.go 9 (cf' := (117, [.ref 148, .int a1, .int a2, .int a3, .int a4, .int a5], [.int ((1 : Int32) <<< ((((2 : Int32) * a4) + a5) &&& 31)), .int a3], sM Ln I L c s)) rfl h (by omega)
        · have h := h.2 hc
          refine dd_Rn.ite 1 (c := a5 = 0) (A := (13, [.ref 148, .int a2, .int ((1 : Int32) - a4), .int a5], [], sM Ln I L c s)) (B := (20, [.ref 148, .int a2, .int ((1 : Int32) - a4), .int a5], [], sM Ln I L c s)) rfl (fun hc => ?_) (fun hc => ?_) (by omega)
          · have h := h.1 hc
            refine dd_Rn.retK 4 (pc := 22) (ls := [.ref 148, .int a2, .int ((1 : Int32) - a4), .int a5]) (st := [.int ((9 : Int32) - a2)]) (M := sM Ln I L c s) (o := (none, .int ((9 : Int32) - a2), sM Ln I L c s)) rfl rfl (dd_Af.ret rfl ?_) (by omega)
            show dd_Rn (e + 16) m_X11_rests (82, [.ref 148, .int a1, .int a2, .int a3, .int a4, .int a5], [.int ((9 : Int32) - a2), .int (-3), .int a3], sM Ln I L c s) _
            refine dd_Rn.ite 0 (c := (-3 : Int32) < (9 : Int32) - a2) (A := (116, [.ref 148, .int a1, .int a2, .int a3, .int a4, .int a5], [.int a3], sM Ln I L c s)) (B := (85, [.ref 148, .int a1, .int a2, .int a3, .int a4, .int a5], [.int a3], sM Ln I L c s)) rfl (fun hc => ?_) (fun hc => ?_) (by omega)
            · have h := h.1 hc
              exact dd_Rn.go 0 (cf' := (116, [.ref 148, .int a1, .int a2, .int a3, .int a4, .int a5], [.int a3], sM Ln I L c s)) rfl h (by omega)
            · have h := h.2 hc
              refine dd_Rn.sub 2 (pc := 89) (ls := [.ref 148, .int a1, .int a2, .int a3, .int a4, .int a5]) (st := [.int a5, .int a4, .int a3]) (M := sM Ln I L c s) (x := m_X11_theyHave) (as := [.int a4, .int a5]) (rest := [.int a3]) rfl rfl rfl rfl ?_
              show dd_Rn (e + 15) m_X11_theyHave (0, [.int a4, .int a5], [], sM Ln I L c s) _
              refine dd_Rn.ite 2 (c := a5 = 1) (A := (5, [.int a4, .int a5], [], sM Ln I L c s)) (B := (9, [.int a4, .int a5], [], sM Ln I L c s)) rfl (fun hc => ?_) (fun hc => ?_) (by omega)
              · have h := h.1 hc
                refine dd_Rn.retK 2 (pc := 19) (ls := [.int a4, .int a5]) (st := [.int (-1)]) (M := sM Ln I L c s) (o := (none, .int (-1), sM Ln I L c s)) rfl rfl (dd_Af.ret rfl ?_) (by omega)
                show dd_Rn (e + 16) m_X11_rests (92, [.ref 148, .int a1, .int a2, .int a3, .int a4, .int a5], [.int (-1), .int a3], sM Ln I L c s) _
                refine dd_Rn.sub 4 (pc := 98) (ls := [.ref 148, .int a1, .int a2, .int a3, .int a4, .int a5]) (st := [.int ((1 : Int32) - a5), .int a4, .int (-1), .int a3]) (M := sM Ln I L c s) (x := m_X11_theyHave) (as := [.int a4, .int ((1 : Int32) - a5)]) (rest := [.int (-1), .int a3]) rfl rfl rfl rfl ?_
                show dd_Rn (e + 15) m_X11_theyHave (0, [.int a4, .int ((1 : Int32) - a5)], [], sM Ln I L c s) _
                refine dd_Rn.ite 2 (c := (1 : Int32) - a5 = 1) (A := (5, [.int a4, .int ((1 : Int32) - a5)], [], sM Ln I L c s)) (B := (9, [.int a4, .int ((1 : Int32) - a5)], [], sM Ln I L c s)) rfl (fun hc => ?_) (fun hc => ?_) (by omega)
                · have h := h.1 hc
                  refine dd_Rn.retK 2 (pc := 19) (ls := [.int a4, .int ((1 : Int32) - a5)]) (st := [.int (-1)]) (M := sM Ln I L c s) (o := (none, .int (-1), sM Ln I L c s)) rfl rfl (dd_Af.ret rfl ?_) (by omega)
                  show dd_Rn (e + 16) m_X11_rests (101, [.ref 148, .int a1, .int a2, .int a3, .int a4, .int a5], [.int (-1), .int (-1), .int a3], sM Ln I L c s) _
                  exact dd_Rn.go 9 (cf' := (117, [.ref 148, .int a1, .int a2, .int a3, .int a4, .int a5], [.int ((1 : Int32) <<< ((((2 : Int32) * a4) + a5) &&& 31)), .int a3], sM Ln I L c s)) rfl h (by omega)
                · have h := h.2 hc
                  refine dd_Rn.ite 1 (c := a4 = 0) (A := (13, [.int a4, .int ((1 : Int32) - a5)], [], sM Ln I L c s)) (B := (17, [.int a4, .int ((1 : Int32) - a5)], [], sM Ln I L c s)) rfl (fun hc => ?_) (fun hc => ?_) (by omega)
                  · have h := h.1 hc
                    refine dd_Rn.retK 2 (pc := 19) (ls := [.int a4, .int ((1 : Int32) - a5)]) (st := [.int 3]) (M := sM Ln I L c s) (o := (none, .int 3, sM Ln I L c s)) rfl rfl (dd_Af.ret rfl ?_) (by omega)
                    show dd_Rn (e + 16) m_X11_rests (101, [.ref 148, .int a1, .int a2, .int a3, .int a4, .int a5], [.int 3, .int (-1), .int a3], sM Ln I L c s) _
                    exact dd_Rn.go 1 (cf' := (116, [.ref 148, .int a1, .int a2, .int a3, .int a4, .int a5], [.int a3], sM Ln I L c s)) rfl h (by omega)
                  · have h := h.2 hc
                    refine dd_Rn.retK 1 (pc := 19) (ls := [.int a4, .int ((1 : Int32) - a5)]) (st := [.int (-2)]) (M := sM Ln I L c s) (o := (none, .int (-2), sM Ln I L c s)) rfl rfl (dd_Af.ret rfl ?_) (by omega)
                    show dd_Rn (e + 16) m_X11_rests (101, [.ref 148, .int a1, .int a2, .int a3, .int a4, .int a5], [.int (-2), .int (-1), .int a3], sM Ln I L c s) _
                    exact dd_Rn.go 9 (cf' := (117, [.ref 148, .int a1, .int a2, .int a3, .int a4, .int a5], [.int ((1 : Int32) <<< ((((2 : Int32) * a4) + a5) &&& 31)), .int a3], sM Ln I L c s)) rfl h (by omega)
              · have h := h.2 hc
                refine dd_Rn.ite 1 (c := a4 = 0) (A := (13, [.int a4, .int a5], [], sM Ln I L c s)) (B := (17, [.int a4, .int a5], [], sM Ln I L c s)) rfl (fun hc => ?_) (fun hc => ?_) (by omega)
                · have h := h.1 hc
                  refine dd_Rn.retK 2 (pc := 19) (ls := [.int a4, .int a5]) (st := [.int 3]) (M := sM Ln I L c s) (o := (none, .int 3, sM Ln I L c s)) rfl rfl (dd_Af.ret rfl ?_) (by omega)
                  show dd_Rn (e + 16) m_X11_rests (92, [.ref 148, .int a1, .int a2, .int a3, .int a4, .int a5], [.int 3, .int a3], sM Ln I L c s) _
                  refine dd_Rn.sub 4 (pc := 98) (ls := [.ref 148, .int a1, .int a2, .int a3, .int a4, .int a5]) (st := [.int ((1 : Int32) - a5), .int a4, .int 3, .int a3]) (M := sM Ln I L c s) (x := m_X11_theyHave) (as := [.int a4, .int ((1 : Int32) - a5)]) (rest := [.int 3, .int a3]) rfl rfl rfl rfl ?_
                  show dd_Rn (e + 15) m_X11_theyHave (0, [.int a4, .int ((1 : Int32) - a5)], [], sM Ln I L c s) _
                  refine dd_Rn.ite 2 (c := (1 : Int32) - a5 = 1) (A := (5, [.int a4, .int ((1 : Int32) - a5)], [], sM Ln I L c s)) (B := (9, [.int a4, .int ((1 : Int32) - a5)], [], sM Ln I L c s)) rfl (fun hc => ?_) (fun hc => ?_) (by omega)
                  · have h := h.1 hc
                    refine dd_Rn.retK 2 (pc := 19) (ls := [.int a4, .int ((1 : Int32) - a5)]) (st := [.int (-1)]) (M := sM Ln I L c s) (o := (none, .int (-1), sM Ln I L c s)) rfl rfl (dd_Af.ret rfl ?_) (by omega)
                    show dd_Rn (e + 16) m_X11_rests (101, [.ref 148, .int a1, .int a2, .int a3, .int a4, .int a5], [.int (-1), .int 3, .int a3], sM Ln I L c s) _
                    exact dd_Rn.go 9 (cf' := (117, [.ref 148, .int a1, .int a2, .int a3, .int a4, .int a5], [.int ((1 : Int32) <<< ((((2 : Int32) * a4) + a5) &&& 31)), .int a3], sM Ln I L c s)) rfl h (by omega)
                  · have h := h.2 hc
                    refine dd_Rn.ite 1 (c := a4 = 0) (A := (13, [.int a4, .int ((1 : Int32) - a5)], [], sM Ln I L c s)) (B := (17, [.int a4, .int ((1 : Int32) - a5)], [], sM Ln I L c s)) rfl (fun hc => ?_) (fun hc => ?_) (by omega)
                    · have h := h.1 hc
                      refine dd_Rn.retK 2 (pc := 19) (ls := [.int a4, .int ((1 : Int32) - a5)]) (st := [.int 3]) (M := sM Ln I L c s) (o := (none, .int 3, sM Ln I L c s)) rfl rfl (dd_Af.ret rfl ?_) (by omega)
                      show dd_Rn (e + 16) m_X11_rests (101, [.ref 148, .int a1, .int a2, .int a3, .int a4, .int a5], [.int 3, .int 3, .int a3], sM Ln I L c s) _
                      exact dd_Rn.go 9 (cf' := (117, [.ref 148, .int a1, .int a2, .int a3, .int a4, .int a5], [.int ((1 : Int32) <<< ((((2 : Int32) * a4) + a5) &&& 31)), .int a3], sM Ln I L c s)) rfl h (by omega)
                    · have h := h.2 hc
                      refine dd_Rn.retK 1 (pc := 19) (ls := [.int a4, .int ((1 : Int32) - a5)]) (st := [.int (-2)]) (M := sM Ln I L c s) (o := (none, .int (-2), sM Ln I L c s)) rfl rfl (dd_Af.ret rfl ?_) (by omega)
                      show dd_Rn (e + 16) m_X11_rests (101, [.ref 148, .int a1, .int a2, .int a3, .int a4, .int a5], [.int (-2), .int 3, .int a3], sM Ln I L c s) _
                      exact dd_Rn.go 9 (cf' := (117, [.ref 148, .int a1, .int a2, .int a3, .int a4, .int a5], [.int ((1 : Int32) <<< ((((2 : Int32) * a4) + a5) &&& 31)), .int a3], sM Ln I L c s)) rfl h (by omega)
                · have h := h.2 hc
                  refine dd_Rn.retK 1 (pc := 19) (ls := [.int a4, .int a5]) (st := [.int (-2)]) (M := sM Ln I L c s) (o := (none, .int (-2), sM Ln I L c s)) rfl rfl (dd_Af.ret rfl ?_) (by omega)
                  show dd_Rn (e + 16) m_X11_rests (92, [.ref 148, .int a1, .int a2, .int a3, .int a4, .int a5], [.int (-2), .int a3], sM Ln I L c s) _
                  refine dd_Rn.sub 4 (pc := 98) (ls := [.ref 148, .int a1, .int a2, .int a3, .int a4, .int a5]) (st := [.int ((1 : Int32) - a5), .int a4, .int (-2), .int a3]) (M := sM Ln I L c s) (x := m_X11_theyHave) (as := [.int a4, .int ((1 : Int32) - a5)]) (rest := [.int (-2), .int a3]) rfl rfl rfl rfl ?_
                  show dd_Rn (e + 15) m_X11_theyHave (0, [.int a4, .int ((1 : Int32) - a5)], [], sM Ln I L c s) _
                  refine dd_Rn.ite 2 (c := (1 : Int32) - a5 = 1) (A := (5, [.int a4, .int ((1 : Int32) - a5)], [], sM Ln I L c s)) (B := (9, [.int a4, .int ((1 : Int32) - a5)], [], sM Ln I L c s)) rfl (fun hc => ?_) (fun hc => ?_) (by omega)
                  · have h := h.1 hc
                    refine dd_Rn.retK 2 (pc := 19) (ls := [.int a4, .int ((1 : Int32) - a5)]) (st := [.int (-1)]) (M := sM Ln I L c s) (o := (none, .int (-1), sM Ln I L c s)) rfl rfl (dd_Af.ret rfl ?_) (by omega)
                    show dd_Rn (e + 16) m_X11_rests (101, [.ref 148, .int a1, .int a2, .int a3, .int a4, .int a5], [.int (-1), .int (-2), .int a3], sM Ln I L c s) _
                    exact dd_Rn.go 1 (cf' := (116, [.ref 148, .int a1, .int a2, .int a3, .int a4, .int a5], [.int a3], sM Ln I L c s)) rfl h (by omega)
                  · have h := h.2 hc
                    refine dd_Rn.ite 1 (c := a4 = 0) (A := (13, [.int a4, .int ((1 : Int32) - a5)], [], sM Ln I L c s)) (B := (17, [.int a4, .int ((1 : Int32) - a5)], [], sM Ln I L c s)) rfl (fun hc => ?_) (fun hc => ?_) (by omega)
                    · have h := h.1 hc
                      refine dd_Rn.retK 2 (pc := 19) (ls := [.int a4, .int ((1 : Int32) - a5)]) (st := [.int 3]) (M := sM Ln I L c s) (o := (none, .int 3, sM Ln I L c s)) rfl rfl (dd_Af.ret rfl ?_) (by omega)
                      show dd_Rn (e + 16) m_X11_rests (101, [.ref 148, .int a1, .int a2, .int a3, .int a4, .int a5], [.int 3, .int (-2), .int a3], sM Ln I L c s) _
                      exact dd_Rn.go 1 (cf' := (116, [.ref 148, .int a1, .int a2, .int a3, .int a4, .int a5], [.int a3], sM Ln I L c s)) rfl h (by omega)
                    · have h := h.2 hc
                      refine dd_Rn.retK 1 (pc := 19) (ls := [.int a4, .int ((1 : Int32) - a5)]) (st := [.int (-2)]) (M := sM Ln I L c s) (o := (none, .int (-2), sM Ln I L c s)) rfl rfl (dd_Af.ret rfl ?_) (by omega)
                      show dd_Rn (e + 16) m_X11_rests (101, [.ref 148, .int a1, .int a2, .int a3, .int a4, .int a5], [.int (-2), .int (-2), .int a3], sM Ln I L c s) _
                      exact dd_Rn.go 9 (cf' := (117, [.ref 148, .int a1, .int a2, .int a3, .int a4, .int a5], [.int ((1 : Int32) <<< ((((2 : Int32) * a4) + a5) &&& 31)), .int a3], sM Ln I L c s)) rfl h (by omega)
          · have h := h.2 hc
            refine dd_Rn.retK 1 (pc := 22) (ls := [.ref 148, .int a2, .int ((1 : Int32) - a4), .int a5]) (st := [.int (-3)]) (M := sM Ln I L c s) (o := (none, .int (-3), sM Ln I L c s)) rfl rfl (dd_Af.ret rfl ?_) (by omega)
            show dd_Rn (e + 16) m_X11_rests (82, [.ref 148, .int a1, .int a2, .int a3, .int a4, .int a5], [.int (-3), .int (-3), .int a3], sM Ln I L c s) _
            refine dd_Rn.sub 3 (pc := 89) (ls := [.ref 148, .int a1, .int a2, .int a3, .int a4, .int a5]) (st := [.int a5, .int a4, .int a3]) (M := sM Ln I L c s) (x := m_X11_theyHave) (as := [.int a4, .int a5]) (rest := [.int a3]) rfl rfl rfl rfl ?_
            show dd_Rn (e + 15) m_X11_theyHave (0, [.int a4, .int a5], [], sM Ln I L c s) _
            refine dd_Rn.ite 2 (c := a5 = 1) (A := (5, [.int a4, .int a5], [], sM Ln I L c s)) (B := (9, [.int a4, .int a5], [], sM Ln I L c s)) rfl (fun hc => ?_) (fun hc => ?_) (by omega)
            · have h := h.1 hc
              refine dd_Rn.retK 2 (pc := 19) (ls := [.int a4, .int a5]) (st := [.int (-1)]) (M := sM Ln I L c s) (o := (none, .int (-1), sM Ln I L c s)) rfl rfl (dd_Af.ret rfl ?_) (by omega)
              show dd_Rn (e + 16) m_X11_rests (92, [.ref 148, .int a1, .int a2, .int a3, .int a4, .int a5], [.int (-1), .int a3], sM Ln I L c s) _
              refine dd_Rn.sub 4 (pc := 98) (ls := [.ref 148, .int a1, .int a2, .int a3, .int a4, .int a5]) (st := [.int ((1 : Int32) - a5), .int a4, .int (-1), .int a3]) (M := sM Ln I L c s) (x := m_X11_theyHave) (as := [.int a4, .int ((1 : Int32) - a5)]) (rest := [.int (-1), .int a3]) rfl rfl rfl rfl ?_
              show dd_Rn (e + 15) m_X11_theyHave (0, [.int a4, .int ((1 : Int32) - a5)], [], sM Ln I L c s) _
              refine dd_Rn.ite 2 (c := (1 : Int32) - a5 = 1) (A := (5, [.int a4, .int ((1 : Int32) - a5)], [], sM Ln I L c s)) (B := (9, [.int a4, .int ((1 : Int32) - a5)], [], sM Ln I L c s)) rfl (fun hc => ?_) (fun hc => ?_) (by omega)
              · have h := h.1 hc
                refine dd_Rn.retK 2 (pc := 19) (ls := [.int a4, .int ((1 : Int32) - a5)]) (st := [.int (-1)]) (M := sM Ln I L c s) (o := (none, .int (-1), sM Ln I L c s)) rfl rfl (dd_Af.ret rfl ?_) (by omega)
                show dd_Rn (e + 16) m_X11_rests (101, [.ref 148, .int a1, .int a2, .int a3, .int a4, .int a5], [.int (-1), .int (-1), .int a3], sM Ln I L c s) _
                exact dd_Rn.go 9 (cf' := (117, [.ref 148, .int a1, .int a2, .int a3, .int a4, .int a5], [.int ((1 : Int32) <<< ((((2 : Int32) * a4) + a5) &&& 31)), .int a3], sM Ln I L c s)) rfl h (by omega)
              · have h := h.2 hc
                refine dd_Rn.ite 1 (c := a4 = 0) (A := (13, [.int a4, .int ((1 : Int32) - a5)], [], sM Ln I L c s)) (B := (17, [.int a4, .int ((1 : Int32) - a5)], [], sM Ln I L c s)) rfl (fun hc => ?_) (fun hc => ?_) (by omega)
                · have h := h.1 hc
                  refine dd_Rn.retK 2 (pc := 19) (ls := [.int a4, .int ((1 : Int32) - a5)]) (st := [.int 3]) (M := sM Ln I L c s) (o := (none, .int 3, sM Ln I L c s)) rfl rfl (dd_Af.ret rfl ?_) (by omega)
                  show dd_Rn (e + 16) m_X11_rests (101, [.ref 148, .int a1, .int a2, .int a3, .int a4, .int a5], [.int 3, .int (-1), .int a3], sM Ln I L c s) _
                  exact dd_Rn.go 1 (cf' := (116, [.ref 148, .int a1, .int a2, .int a3, .int a4, .int a5], [.int a3], sM Ln I L c s)) rfl h (by omega)
                · have h := h.2 hc
                  refine dd_Rn.retK 1 (pc := 19) (ls := [.int a4, .int ((1 : Int32) - a5)]) (st := [.int (-2)]) (M := sM Ln I L c s) (o := (none, .int (-2), sM Ln I L c s)) rfl rfl (dd_Af.ret rfl ?_) (by omega)
                  show dd_Rn (e + 16) m_X11_rests (101, [.ref 148, .int a1, .int a2, .int a3, .int a4, .int a5], [.int (-2), .int (-1), .int a3], sM Ln I L c s) _
                  exact dd_Rn.go 9 (cf' := (117, [.ref 148, .int a1, .int a2, .int a3, .int a4, .int a5], [.int ((1 : Int32) <<< ((((2 : Int32) * a4) + a5) &&& 31)), .int a3], sM Ln I L c s)) rfl h (by omega)
            · have h := h.2 hc
              refine dd_Rn.ite 1 (c := a4 = 0) (A := (13, [.int a4, .int a5], [], sM Ln I L c s)) (B := (17, [.int a4, .int a5], [], sM Ln I L c s)) rfl (fun hc => ?_) (fun hc => ?_) (by omega)
              · have h := h.1 hc
                refine dd_Rn.retK 2 (pc := 19) (ls := [.int a4, .int a5]) (st := [.int 3]) (M := sM Ln I L c s) (o := (none, .int 3, sM Ln I L c s)) rfl rfl (dd_Af.ret rfl ?_) (by omega)
                show dd_Rn (e + 16) m_X11_rests (92, [.ref 148, .int a1, .int a2, .int a3, .int a4, .int a5], [.int 3, .int a3], sM Ln I L c s) _
                refine dd_Rn.sub 4 (pc := 98) (ls := [.ref 148, .int a1, .int a2, .int a3, .int a4, .int a5]) (st := [.int ((1 : Int32) - a5), .int a4, .int 3, .int a3]) (M := sM Ln I L c s) (x := m_X11_theyHave) (as := [.int a4, .int ((1 : Int32) - a5)]) (rest := [.int 3, .int a3]) rfl rfl rfl rfl ?_
                show dd_Rn (e + 15) m_X11_theyHave (0, [.int a4, .int ((1 : Int32) - a5)], [], sM Ln I L c s) _
                refine dd_Rn.ite 2 (c := (1 : Int32) - a5 = 1) (A := (5, [.int a4, .int ((1 : Int32) - a5)], [], sM Ln I L c s)) (B := (9, [.int a4, .int ((1 : Int32) - a5)], [], sM Ln I L c s)) rfl (fun hc => ?_) (fun hc => ?_) (by omega)
                · have h := h.1 hc
                  refine dd_Rn.retK 2 (pc := 19) (ls := [.int a4, .int ((1 : Int32) - a5)]) (st := [.int (-1)]) (M := sM Ln I L c s) (o := (none, .int (-1), sM Ln I L c s)) rfl rfl (dd_Af.ret rfl ?_) (by omega)
                  show dd_Rn (e + 16) m_X11_rests (101, [.ref 148, .int a1, .int a2, .int a3, .int a4, .int a5], [.int (-1), .int 3, .int a3], sM Ln I L c s) _
                  exact dd_Rn.go 9 (cf' := (117, [.ref 148, .int a1, .int a2, .int a3, .int a4, .int a5], [.int ((1 : Int32) <<< ((((2 : Int32) * a4) + a5) &&& 31)), .int a3], sM Ln I L c s)) rfl h (by omega)
                · have h := h.2 hc
                  refine dd_Rn.ite 1 (c := a4 = 0) (A := (13, [.int a4, .int ((1 : Int32) - a5)], [], sM Ln I L c s)) (B := (17, [.int a4, .int ((1 : Int32) - a5)], [], sM Ln I L c s)) rfl (fun hc => ?_) (fun hc => ?_) (by omega)
                  · have h := h.1 hc
                    refine dd_Rn.retK 2 (pc := 19) (ls := [.int a4, .int ((1 : Int32) - a5)]) (st := [.int 3]) (M := sM Ln I L c s) (o := (none, .int 3, sM Ln I L c s)) rfl rfl (dd_Af.ret rfl ?_) (by omega)
                    show dd_Rn (e + 16) m_X11_rests (101, [.ref 148, .int a1, .int a2, .int a3, .int a4, .int a5], [.int 3, .int 3, .int a3], sM Ln I L c s) _
                    exact dd_Rn.go 9 (cf' := (117, [.ref 148, .int a1, .int a2, .int a3, .int a4, .int a5], [.int ((1 : Int32) <<< ((((2 : Int32) * a4) + a5) &&& 31)), .int a3], sM Ln I L c s)) rfl h (by omega)
                  · have h := h.2 hc
                    refine dd_Rn.retK 1 (pc := 19) (ls := [.int a4, .int ((1 : Int32) - a5)]) (st := [.int (-2)]) (M := sM Ln I L c s) (o := (none, .int (-2), sM Ln I L c s)) rfl rfl (dd_Af.ret rfl ?_) (by omega)
                    show dd_Rn (e + 16) m_X11_rests (101, [.ref 148, .int a1, .int a2, .int a3, .int a4, .int a5], [.int (-2), .int 3, .int a3], sM Ln I L c s) _
                    exact dd_Rn.go 9 (cf' := (117, [.ref 148, .int a1, .int a2, .int a3, .int a4, .int a5], [.int ((1 : Int32) <<< ((((2 : Int32) * a4) + a5) &&& 31)), .int a3], sM Ln I L c s)) rfl h (by omega)
              · have h := h.2 hc
                refine dd_Rn.retK 1 (pc := 19) (ls := [.int a4, .int a5]) (st := [.int (-2)]) (M := sM Ln I L c s) (o := (none, .int (-2), sM Ln I L c s)) rfl rfl (dd_Af.ret rfl ?_) (by omega)
                show dd_Rn (e + 16) m_X11_rests (92, [.ref 148, .int a1, .int a2, .int a3, .int a4, .int a5], [.int (-2), .int a3], sM Ln I L c s) _
                refine dd_Rn.sub 4 (pc := 98) (ls := [.ref 148, .int a1, .int a2, .int a3, .int a4, .int a5]) (st := [.int ((1 : Int32) - a5), .int a4, .int (-2), .int a3]) (M := sM Ln I L c s) (x := m_X11_theyHave) (as := [.int a4, .int ((1 : Int32) - a5)]) (rest := [.int (-2), .int a3]) rfl rfl rfl rfl ?_
                show dd_Rn (e + 15) m_X11_theyHave (0, [.int a4, .int ((1 : Int32) - a5)], [], sM Ln I L c s) _
                refine dd_Rn.ite 2 (c := (1 : Int32) - a5 = 1) (A := (5, [.int a4, .int ((1 : Int32) - a5)], [], sM Ln I L c s)) (B := (9, [.int a4, .int ((1 : Int32) - a5)], [], sM Ln I L c s)) rfl (fun hc => ?_) (fun hc => ?_) (by omega)
                · have h := h.1 hc
                  refine dd_Rn.retK 2 (pc := 19) (ls := [.int a4, .int ((1 : Int32) - a5)]) (st := [.int (-1)]) (M := sM Ln I L c s) (o := (none, .int (-1), sM Ln I L c s)) rfl rfl (dd_Af.ret rfl ?_) (by omega)
                  show dd_Rn (e + 16) m_X11_rests (101, [.ref 148, .int a1, .int a2, .int a3, .int a4, .int a5], [.int (-1), .int (-2), .int a3], sM Ln I L c s) _
                  exact dd_Rn.go 1 (cf' := (116, [.ref 148, .int a1, .int a2, .int a3, .int a4, .int a5], [.int a3], sM Ln I L c s)) rfl h (by omega)
                · have h := h.2 hc
                  refine dd_Rn.ite 1 (c := a4 = 0) (A := (13, [.int a4, .int ((1 : Int32) - a5)], [], sM Ln I L c s)) (B := (17, [.int a4, .int ((1 : Int32) - a5)], [], sM Ln I L c s)) rfl (fun hc => ?_) (fun hc => ?_) (by omega)
                  · have h := h.1 hc
                    refine dd_Rn.retK 2 (pc := 19) (ls := [.int a4, .int ((1 : Int32) - a5)]) (st := [.int 3]) (M := sM Ln I L c s) (o := (none, .int 3, sM Ln I L c s)) rfl rfl (dd_Af.ret rfl ?_) (by omega)
                    show dd_Rn (e + 16) m_X11_rests (101, [.ref 148, .int a1, .int a2, .int a3, .int a4, .int a5], [.int 3, .int (-2), .int a3], sM Ln I L c s) _
                    exact dd_Rn.go 1 (cf' := (116, [.ref 148, .int a1, .int a2, .int a3, .int a4, .int a5], [.int a3], sM Ln I L c s)) rfl h (by omega)
                  · have h := h.2 hc
                    refine dd_Rn.retK 1 (pc := 19) (ls := [.int a4, .int ((1 : Int32) - a5)]) (st := [.int (-2)]) (M := sM Ln I L c s) (o := (none, .int (-2), sM Ln I L c s)) rfl rfl (dd_Af.ret rfl ?_) (by omega)
                    show dd_Rn (e + 16) m_X11_rests (101, [.ref 148, .int a1, .int a2, .int a3, .int a4, .int a5], [.int (-2), .int (-2), .int a3], sM Ln I L c s) _
                    exact dd_Rn.go 9 (cf' := (117, [.ref 148, .int a1, .int a2, .int a3, .int a4, .int a5], [.int ((1 : Int32) <<< ((((2 : Int32) * a4) + a5) &&& 31)), .int a3], sM Ln I L c s)) rfl h (by omega)

theorem w_X11_rests_116 {Ln d c s : Nat} {I : Nat → Nat → Int32} {L : Nat → Nat → Int64} {Q : dd_O → Prop} {a1 a2 a3 a4 a5 b0 : Int32} (hd : 28 ≤ d) (h : dd_Rn d m_X11_rests (117, [.ref 148, .int a1, .int a2, .int a3, .int a4, .int a5], [.int 0, .int b0], sM Ln I L c s) Q) : dd_Rn d m_X11_rests (116, [.ref 148, .int a1, .int a2, .int a3, .int a4, .int a5], [.int b0], sM Ln I L c s) Q := by
  obtain ⟨e, rfl⟩ : ∃ e, d = e + 16 := ⟨d - 16, by omega⟩
  exact dd_Rn.go 1 (cf' := (117, [.ref 148, .int a1, .int a2, .int a3, .int a4, .int a5], [.int 0, .int b0], sM Ln I L c s)) rfl h (by omega)

theorem w_X11_rests_117 {Ln d c s : Nat} {I : Nat → Nat → Int32} {L : Nat → Nat → Int64} {Q : dd_O → Prop} {a1 a2 a3 a4 a5 b0 b1 : Int32} (hd : 28 ≤ d) (h : dd_Rn d m_X11_rests (55, [.ref 148, .int a1, .int a2, .int (b0 ||| b1), .int a4, .int (a5 + 1)], [], sM Ln I L c s) Q) : dd_Rn d m_X11_rests (117, [.ref 148, .int a1, .int a2, .int a3, .int a4, .int a5], [.int b1, .int b0], sM Ln I L c s) Q := by
  obtain ⟨e, rfl⟩ : ∃ e, d = e + 16 := ⟨d - 16, by omega⟩
  exact dd_Rn.go 4 (cf' := (55, [.ref 148, .int a1, .int a2, .int (b0 ||| b1), .int a4, .int (a5 + 1)], [], sM Ln I L c s)) rfl h (by omega)

theorem w_X11_hearing_0 {Ln d c s : Nat} {I : Nat → Nat → Int32} {L : Nat → Nat → Int64} {Q : dd_O → Prop} (hd : 28 ≤ d) (h : dd_Rn d m_X11_hearing (9, [.ref 148, .int 0, .int 0], [], sM Ln (dd_u I 148 (upd (I 148) 0 0)) L c s) Q) : dd_Ev d m_X11_hearing [.ref 148] (sM Ln I L c s) Q := by
  obtain ⟨e, rfl⟩ : ∃ e, d = e + 16 := ⟨d - 16, by omega⟩
  show dd_Rn (e + 16) m_X11_hearing (0, [.ref 148, .null, .null], [], sM Ln I L c s) Q
  exact dd_Rn.go 7 (cf' := (9, [.ref 148, .int 0, .int 0], [], sM Ln (dd_u I 148 (upd (I 148) 0 0)) L c s)) rfl h (by omega)

theorem w_X11_hearing_9 {Ln d c s : Nat} {I : Nat → Nat → Int32} {L : Nat → Nat → Int64} {Q : dd_O → Prop} {a1 a2 : Int32} (hd : 28 ≤ d) (h : ((I 149 1 ≤ a2 → Q (none, .int a1, sM Ln I L c s)) ∧ (¬ (I 149 1 ≤ a2) → ((0 ≤ ((187 : Int32) + ((5 : Int32) * a2)) + 3 ∧ tn (((187 : Int32) + ((5 : Int32) * a2)) + 3) < 2220) ∧ ((I 149 (tn (((187 : Int32) + ((5 : Int32) * a2)) + 3)) = 1 → dd_Rn d m_X11_hearing (9, [.ref 148, .int (a1 ||| 0), .int (a2 + 1)], [], sM Ln I L c s) Q) ∧ (¬ (I 149 (tn (((187 : Int32) + ((5 : Int32) * a2)) + 3)) = 1) → dd_Ev (d - 1) m_X11_hears [.ref 148, .int a2] (sM Ln I L c s) (dd_RI Ln c s (fun x1 I1 L1 => ((x1 = 0 → dd_Rn d m_X11_hearing (9, [.ref 148, .int (a1 ||| 0), .int (a2 + 1)], [], sM Ln I1 L1 c s) Q) ∧ (¬ (x1 = 0) → dd_Rn d m_X11_hearing (9, [.ref 148, .int (a1 ||| ((1 : Int32) <<< (a2 &&& 31))), .int (a2 + 1)], [], sM Ln I1 L1 c s) Q)))))))))) : dd_Rn d m_X11_hearing (9, [.ref 148, .int a1, .int a2], [], sM Ln I L c s) Q := by
  obtain ⟨e, rfl⟩ : ∃ e, d = e + 16 := ⟨d - 16, by omega⟩
  refine dd_Rn.sub 2 (pc := 11) (ls := [.ref 148, .int a1, .int a2]) (st := [.ref 148, .int a2]) (M := sM Ln I L c s) (x := m_X11_boys) (as := [.ref 148]) (rest := [.int a2]) rfl rfl rfl rfl ?_
  show dd_Rn (e + 15) m_X11_boys (0, [.ref 148], [], sM Ln I L c s) _
  refine dd_Rn.retK 4 (pc := 6) (ls := [.ref 148]) (st := [.int (I 149 1)]) (M := sM Ln I L c s) (o := (none, .int (I 149 1), sM Ln I L c s)) rfl rfl (dd_Af.ret rfl ?_) (by omega)
  show dd_Rn (e + 16) m_X11_hearing (14, [.ref 148, .int a1, .int a2], [.int (I 149 1), .int a2], sM Ln I L c s) _
  refine dd_Rn.ite 0 (c := I 149 1 ≤ a2) (A := (49, [.ref 148, .int a1, .int a2], [], sM Ln I L c s)) (B := (17, [.ref 148, .int a1, .int a2], [], sM Ln I L c s)) rfl (fun hc => ?_) (fun hc => ?_) (by omega)
  · have h := h.1 hc
    exact dd_Rn.retK 1 (pc := 50) (ls := [.ref 148, .int a1, .int a2]) (st := [.int a1]) (M := sM Ln I L c s) (o := (none, .int a1, sM Ln I L c s)) rfl rfl h (by omega)
  · have h := h.2 hc
    refine dd_Rn.sub 3 (pc := 20) (ls := [.ref 148, .int a1, .int a2]) (st := [.int a2, .ref 148, .int a1]) (M := sM Ln I L c s) (x := m_X11_isIn) (as := [.ref 148, .int a2]) (rest := [.int a1]) rfl rfl rfl rfl ?_
    show dd_Rn (e + 15) m_X11_isIn (0, [.ref 148, .int a2], [], sM Ln I L c s) _
    refine dd_Rn.sub 3 (pc := 3) (ls := [.ref 148, .int a2]) (st := [.int 3, .int a2, .ref 148]) (M := sM Ln I L c s) (x := m_X11_of) (as := [.ref 148, .int a2, .int 3]) (rest := []) rfl rfl rfl rfl ?_
    show dd_Rn (e + 14) m_X11_of (0, [.ref 148, .int a2, .int 3], [], sM Ln I L c s) _
    refine dd_Rn.sub 4 (pc := 6) (ls := [.ref 148, .int a2, .int 3]) (st := [.int 3, .int a2, .ref 149]) (M := sM Ln I L c s) (x := m_X11_at) (as := [.int a2, .int 3]) (rest := [.ref 149]) rfl rfl rfl rfl ?_
    show dd_Rn (e + 13) m_X11_at (0, [.int a2, .int 3], [], sM Ln I L c s) _
    refine dd_Rn.retK 7 (pc := 9) (ls := [.int a2, .int 3]) (st := [.int (((187 : Int32) + ((5 : Int32) * a2)) + 3)]) (M := sM Ln I L c s) (o := (none, .int (((187 : Int32) + ((5 : Int32) * a2)) + 3), sM Ln I L c s)) rfl rfl (dd_Af.ret rfl ?_) (by omega)
    show dd_Rn (e + 14) m_X11_of (9, [.ref 148, .int a2, .int 3], [.int (((187 : Int32) + ((5 : Int32) * a2)) + 3), .ref 149], sM Ln I L c s) _
    obtain ⟨hc, h⟩ := h
    refine dd_Rn.ci (fun j0 => (9, [.ref 148, .int a2, .int 3], [.int j0, .ref 149], sM Ln I L c s)) (fun j0 => (10, [.ref 148, .int a2, .int 3], [.int (I 149 (tn j0))], sM Ln I L c s)) (fun j0 => 0 ≤ j0 ∧ tn j0 < 2220) (((187 : Int32) + ((5 : Int32) * a2)) + 3) (fun j0 hc h => dd_Rn.chk 0 (c := 0 ≤ j0 ∧ tn j0 < 2220) (A := (10, [.ref 148, .int a2, .int 3], [.int (I 149 (tn j0))], sM Ln I L c s)) rfl hc h (by omega)) hc ?_
    refine dd_Rn.se (cf := (10, [.ref 148, .int a2, .int 3], [.int (I 149 (tn (((187 : Int32) + ((5 : Int32) * a2)) + 3)))], sM Ln I L c s)) ?_
    refine dd_Rn.retK 0 (pc := 10) (ls := [.ref 148, .int a2, .int 3]) (st := [.int (I 149 (tn (((187 : Int32) + ((5 : Int32) * a2)) + 3)))]) (M := sM Ln I L c s) (o := (none, .int (I 149 (tn (((187 : Int32) + ((5 : Int32) * a2)) + 3))), sM Ln I L c s)) rfl rfl (dd_Af.ret rfl ?_) (by omega)
    show dd_Rn (e + 15) m_X11_isIn (6, [.ref 148, .int a2], [.int (I 149 (tn (((187 : Int32) + ((5 : Int32) * a2)) + 3)))], sM Ln I L c s) _
    refine dd_Rn.ite 1 (c := I 149 (tn (((187 : Int32) + ((5 : Int32) * a2)) + 3)) = 1) (A := (10, [.ref 148, .int a2], [], sM Ln I L c s)) (B := (14, [.ref 148, .int a2], [], sM Ln I L c s)) rfl (fun hc => ?_) (fun hc => ?_) (by omega)
    · have h := h.1 hc
      refine dd_Rn.retK 2 (pc := 15) (ls := [.ref 148, .int a2]) (st := [.int 1]) (M := sM Ln I L c s) (o := (none, .int 1, sM Ln I L c s)) rfl rfl (dd_Af.ret rfl ?_) (by omega)
      show dd_Rn (e + 16) m_X11_hearing (23, [.ref 148, .int a1, .int a2], [.int 1, .int a1], sM Ln I L c s) _
      exact dd_Rn.go 6 (cf' := (9, [.ref 148, .int (a1 ||| 0), .int (a2 + 1)], [], sM Ln I L c s)) rfl h (by omega)
    · have h := h.2 hc
      refine dd_Rn.retK 1 (pc := 15) (ls := [.ref 148, .int a2]) (st := [.int 0]) (M := sM Ln I L c s) (o := (none, .int 0, sM Ln I L c s)) rfl rfl (dd_Af.ret rfl ?_) (by omega)
      show dd_Rn (e + 16) m_X11_hearing (23, [.ref 148, .int a1, .int a2], [.int 0, .int a1], sM Ln I L c s) _
      refine dd_Rn.cI 3 (pc := 28) (ls := [.ref 148, .int a1, .int a2]) (st := [.int a2, .ref 148, .int a1]) (x := m_X11_hears) (as := [.ref 148, .int a2]) (rest := [.int a1]) rfl rfl rfl rfl h ?_
      intro x1 I1 L1 h
      show dd_Rn (e + 16) m_X11_hearing (31, [.ref 148, .int a1, .int a2], [.int x1, .int a1], sM Ln I1 L1 c s) _
      refine dd_Rn.ite 0 (c := x1 = 0) (A := (40, [.ref 148, .int a1, .int a2], [.int a1], sM Ln I1 L1 c s)) (B := (34, [.ref 148, .int a1, .int a2], [.int a1], sM Ln I1 L1 c s)) rfl (fun hc => ?_) (fun hc => ?_) (by omega)
      · have h := h.1 hc
        exact dd_Rn.go 5 (cf' := (9, [.ref 148, .int (a1 ||| 0), .int (a2 + 1)], [], sM Ln I1 L1 c s)) rfl h (by omega)
      · have h := h.2 hc
        exact dd_Rn.go 8 (cf' := (9, [.ref 148, .int (a1 ||| ((1 : Int32) <<< (a2 &&& 31))), .int (a2 + 1)], [], sM Ln I1 L1 c s)) rfl h (by omega)

theorem w_X11_sumOfCells_0 {Ln d c s : Nat} {I : Nat → Nat → Int32} {L : Nat → Nat → Int64} {Q : dd_O → Prop} {a1 : Int32} (hd : 28 ≤ d) (h : dd_Rn d m_X11_sumOfCells (4, [.ref 148, .int a1, .int 0, .int 0], [], sM Ln I L c s) Q) : dd_Ev d m_X11_sumOfCells [.ref 148, .int a1] (sM Ln I L c s) Q := by
  obtain ⟨e, rfl⟩ : ∃ e, d = e + 16 := ⟨d - 16, by omega⟩
  show dd_Rn (e + 16) m_X11_sumOfCells (0, [.ref 148, .int a1, .null, .null], [], sM Ln I L c s) Q
  exact dd_Rn.go 4 (cf' := (4, [.ref 148, .int a1, .int 0, .int 0], [], sM Ln I L c s)) rfl h (by omega)

theorem w_X11_sumOfCells_4 {Ln d c s : Nat} {I : Nat → Nat → Int32} {L : Nat → Nat → Int64} {Q : dd_O → Prop} {a1 a2 a3 : Int32} (hd : 28 ≤ d) (h : (((64 : Int32) ≤ a3 → Q (none, .int a2, sM Ln I L c s)) ∧ (¬ ((64 : Int32) ≤ a3) → ((0 ≤ a1 + a3 ∧ tn (a1 + a3) < 2220) ∧ dd_Rn d m_X11_sumOfCells (4, [.ref 148, .int a1, .int (a2 + (I 149 (tn (a1 + a3)))), .int (a3 + 1)], [], sM Ln I L c s) Q)))) : dd_Rn d m_X11_sumOfCells (4, [.ref 148, .int a1, .int a2, .int a3], [], sM Ln I L c s) Q := by
  obtain ⟨e, rfl⟩ : ∃ e, d = e + 16 := ⟨d - 16, by omega⟩
  refine dd_Rn.ite 2 (c := (64 : Int32) ≤ a3) (A := (27, [.ref 148, .int a1, .int a2, .int a3], [], sM Ln I L c s)) (B := (10, [.ref 148, .int a1, .int a2, .int a3], [], sM Ln I L c s)) rfl (fun hc => ?_) (fun hc => ?_) (by omega)
  · have h := h.1 hc
    exact dd_Rn.retK 1 (pc := 28) (ls := [.ref 148, .int a1, .int a2, .int a3]) (st := [.int a2]) (M := sM Ln I L c s) (o := (none, .int a2, sM Ln I L c s)) rfl rfl h (by omega)
  · have h := h.2 hc
    obtain ⟨hc, h⟩ := h
    refine dd_Rn.go 6 (cf' := (18, [.ref 148, .int a1, .int a2, .int a3], [.int (a1 + a3), .ref 149, .int a2], sM Ln I L c s)) rfl ?_ (by omega)
    refine dd_Rn.ci (fun j0 => (18, [.ref 148, .int a1, .int a2, .int a3], [.int j0, .ref 149, .int a2], sM Ln I L c s)) (fun j0 => (19, [.ref 148, .int a1, .int a2, .int a3], [.int (I 149 (tn j0)), .int a2], sM Ln I L c s)) (fun j0 => 0 ≤ j0 ∧ tn j0 < 2220) (a1 + a3) (fun j0 hc h => dd_Rn.chk 0 (c := 0 ≤ j0 ∧ tn j0 < 2220) (A := (19, [.ref 148, .int a1, .int a2, .int a3], [.int (I 149 (tn j0)), .int a2], sM Ln I L c s)) rfl hc h (by omega)) hc ?_
    refine dd_Rn.se (cf := (19, [.ref 148, .int a1, .int a2, .int a3], [.int (I 149 (tn (a1 + a3))), .int a2], sM Ln I L c s)) ?_
    exact dd_Rn.go 4 (cf' := (4, [.ref 148, .int a1, .int (a2 + (I 149 (tn (a1 + a3)))), .int (a3 + 1)], [], sM Ln I L c s)) rfl h (by omega)

theorem w_X11_dense_0 {Ln d c s : Nat} {I : Nat → Nat → Int32} {L : Nat → Nat → Int64} {Q : dd_O → Prop} (hd : 28 ≤ d) (h : dd_Ev (d - 1) m_X11_sumOfCells [.ref 148, .int 11] (sM Ln (dd_u I 148 (upd (I 148) 0 0)) L c s) (dd_RI Ln c s (fun x1 I1 L1 => Q (none, .int x1, sM Ln I1 L1 c s)))) : dd_Ev d m_X11_dense [.ref 148] (sM Ln I L c s) Q := by
  obtain ⟨e, rfl⟩ : ∃ e, d = e + 16 := ⟨d - 16, by omega⟩
  show dd_Rn (e + 16) m_X11_dense (0, [.ref 148], [], sM Ln I L c s) Q
  refine dd_Rn.cI 5 (pc := 8) (ls := [.ref 148]) (st := [.int 11, .ref 148]) (x := m_X11_sumOfCells) (as := [.ref 148, .int 11]) (rest := []) rfl rfl rfl rfl h ?_
  intro x1 I1 L1 h
  show dd_Rn (e + 16) m_X11_dense (11, [.ref 148], [.int x1], sM Ln I1 L1 c s) _
  exact dd_Rn.retK 0 (pc := 11) (ls := [.ref 148]) (st := [.int x1]) (M := sM Ln I1 L1 c s) (o := (none, .int x1, sM Ln I1 L1 c s)) rfl rfl h (by omega)

theorem w_X11_ferny_0 {Ln d c s : Nat} {I : Nat → Nat → Int32} {L : Nat → Nat → Int64} {Q : dd_O → Prop} (hd : 28 ≤ d) (h : dd_Rn d m_X11_ferny (11, [.ref 148, .int (-1), .int 0, .int 0], [], sM Ln (dd_u I 148 (upd (I 148) 0 0)) L c s) Q) : dd_Ev d m_X11_ferny [.ref 148] (sM Ln I L c s) Q := by
  obtain ⟨e, rfl⟩ : ∃ e, d = e + 16 := ⟨d - 16, by omega⟩
  show dd_Rn (e + 16) m_X11_ferny (0, [.ref 148, .null, .null, .null], [], sM Ln I L c s) Q
  exact dd_Rn.go 9 (cf' := (11, [.ref 148, .int (-1), .int 0, .int 0], [], sM Ln (dd_u I 148 (upd (I 148) 0 0)) L c s)) rfl h (by omega)

theorem w_X11_ferny_11 {Ln d c s : Nat} {I : Nat → Nat → Int32} {L : Nat → Nat → Int64} {Q : dd_O → Prop} {a1 a2 a3 : Int32} (hd : 28 ≤ d) (h : (((64 : Int32) ≤ a3 → Q (none, .int a1, sM Ln I L c s)) ∧ (¬ ((64 : Int32) ≤ a3) → ((0 ≤ (75 : Int32) + a3 ∧ tn ((75 : Int32) + a3) < 2220) ∧ ((I 149 (tn ((75 : Int32) + a3)) ≤ a2 → ((0 ≤ (75 : Int32) + a3 ∧ tn ((75 : Int32) + a3) < 2220) ∧ dd_Rn d m_X11_ferny (11, [.ref 148, .int a1, .int (if a2 < I 149 (tn ((75 : Int32) + a3)) then I 149 (tn ((75 : Int32) + a3)) else a2), .int (a3 + 1)], [], sM Ln I L c s) Q)) ∧ (¬ (I 149 (tn ((75 : Int32) + a3)) ≤ a2) → ((0 ≤ (75 : Int32) + a3 ∧ tn ((75 : Int32) + a3) < 2220) ∧ dd_Rn d m_X11_ferny (11, [.ref 148, .int a3, .int (if a2 < I 149 (tn ((75 : Int32) + a3)) then I 149 (tn ((75 : Int32) + a3)) else a2), .int (a3 + 1)], [], sM Ln I L c s) Q))))))) : dd_Rn d m_X11_ferny (11, [.ref 148, .int a1, .int a2, .int a3], [], sM Ln I L c s) Q := by
  obtain ⟨e, rfl⟩ : ∃ e, d = e + 16 := ⟨d - 16, by omega⟩
  refine dd_Rn.ite 2 (c := (64 : Int32) ≤ a3) (A := (56, [.ref 148, .int a1, .int a2, .int a3], [], sM Ln I L c s)) (B := (17, [.ref 148, .int a1, .int a2, .int a3], [], sM Ln I L c s)) rfl (fun hc => ?_) (fun hc => ?_) (by omega)
  · have h := h.1 hc
    exact dd_Rn.retK 1 (pc := 57) (ls := [.ref 148, .int a1, .int a2, .int a3]) (st := [.int a1]) (M := sM Ln I L c s) (o := (none, .int a1, sM Ln I L c s)) rfl rfl h (by omega)
  · have h := h.2 hc
    obtain ⟨hc, h⟩ := h
    refine dd_Rn.go 5 (cf' := (25, [.ref 148, .int a1, .int a2, .int a3], [.int ((75 : Int32) + a3), .ref 149], sM Ln I L c s)) rfl ?_ (by omega)
    refine dd_Rn.ci (fun j0 => (25, [.ref 148, .int a1, .int a2, .int a3], [.int j0, .ref 149], sM Ln I L c s)) (fun j0 => (26, [.ref 148, .int a1, .int a2, .int a3], [.int (I 149 (tn j0))], sM Ln I L c s)) (fun j0 => 0 ≤ j0 ∧ tn j0 < 2220) ((75 : Int32) + a3) (fun j0 hc h => dd_Rn.chk 0 (c := 0 ≤ j0 ∧ tn j0 < 2220) (A := (26, [.ref 148, .int a1, .int a2, .int a3], [.int (I 149 (tn j0))], sM Ln I L c s)) rfl hc h (by omega)) hc ?_
    refine dd_Rn.se (cf := (26, [.ref 148, .int a1, .int a2, .int a3], [.int (I 149 (tn ((75 : Int32) + a3)))], sM Ln I L c s)) ?_
    refine dd_Rn.ite 1 (c := I 149 (tn ((75 : Int32) + a3)) ≤ a2) (A := (34, [.ref 148, .int a1, .int a2, .int a3], [], sM Ln I L c s)) (B := (30, [.ref 148, .int a1, .int a2, .int a3], [], sM Ln I L c s)) rfl (fun hc => ?_) (fun hc => ?_) (by omega)
    · have h := h.1 hc
      obtain ⟨hc, h⟩ := h
      refine dd_Rn.go 8 (cf' := (45, [.ref 148, .int a1, .int a2, .int a3], [.int ((75 : Int32) + a3), .ref 149, .int a2], sM Ln I L c s)) rfl ?_ (by omega)
      refine dd_Rn.ci (fun j0 => (45, [.ref 148, .int a1, .int a2, .int a3], [.int j0, .ref 149, .int a2], sM Ln I L c s)) (fun j0 => (46, [.ref 148, .int a1, .int a2, .int a3], [.int (I 149 (tn j0)), .int a2], sM Ln I L c s)) (fun j0 => 0 ≤ j0 ∧ tn j0 < 2220) ((75 : Int32) + a3) (fun j0 hc h => dd_Rn.chk 0 (c := 0 ≤ j0 ∧ tn j0 < 2220) (A := (46, [.ref 148, .int a1, .int a2, .int a3], [.int (I 149 (tn j0)), .int a2], sM Ln I L c s)) rfl hc h (by omega)) hc ?_
      refine dd_Rn.se (cf := (46, [.ref 148, .int a1, .int a2, .int a3], [.int (I 149 (tn ((75 : Int32) + a3))), .int a2], sM Ln I L c s)) ?_
      exact dd_Rn.go 4 (cf' := (11, [.ref 148, .int a1, .int (if a2 < I 149 (tn ((75 : Int32) + a3)) then I 149 (tn ((75 : Int32) + a3)) else a2), .int (a3 + 1)], [], sM Ln I L c s)) rfl h (by omega)
    · have h := h.2 hc
      obtain ⟨hc, h⟩ := h
      refine dd_Rn.go 9 (cf' := (45, [.ref 148, .int a3, .int a2, .int a3], [.int ((75 : Int32) + a3), .ref 149, .int a2], sM Ln I L c s)) rfl ?_ (by omega)
      refine dd_Rn.ci (fun j0 => (45, [.ref 148, .int a3, .int a2, .int a3], [.int j0, .ref 149, .int a2], sM Ln I L c s)) (fun j0 => (46, [.ref 148, .int a3, .int a2, .int a3], [.int (I 149 (tn j0)), .int a2], sM Ln I L c s)) (fun j0 => 0 ≤ j0 ∧ tn j0 < 2220) ((75 : Int32) + a3) (fun j0 hc h => dd_Rn.chk 0 (c := 0 ≤ j0 ∧ tn j0 < 2220) (A := (46, [.ref 148, .int a3, .int a2, .int a3], [.int (I 149 (tn j0)), .int a2], sM Ln I L c s)) rfl hc h (by omega)) hc ?_
      refine dd_Rn.se (cf := (46, [.ref 148, .int a3, .int a2, .int a3], [.int (I 149 (tn ((75 : Int32) + a3))), .int a2], sM Ln I L c s)) ?_
      exact dd_Rn.go 4 (cf' := (11, [.ref 148, .int a3, .int (if a2 < I 149 (tn ((75 : Int32) + a3)) then I 149 (tn ((75 : Int32) + a3)) else a2), .int (a3 + 1)], [], sM Ln I L c s)) rfl h (by omega)

theorem w_X11_out_0 {Ln d c s : Nat} {I : Nat → Nat → Int32} {L : Nat → Nat → Int64} {Q : dd_O → Prop} (hd : 28 ≤ d) (h : dd_Ev (d - 1) m_X11_outOnes [.ref 148] (sM Ln (dd_u I 148 (upd (I 148) 0 0)) L c s) (dd_RI Ln c s (fun x1 I1 L1 => Q (none, .int x1, sM Ln I1 L1 c s)))) : dd_Ev d m_X11_out [.ref 148] (sM Ln I L c s) Q := by
  obtain ⟨e, rfl⟩ : ∃ e, d = e + 16 := ⟨d - 16, by omega⟩
  show dd_Rn (e + 16) m_X11_out (0, [.ref 148], [], sM Ln I L c s) Q
  refine dd_Rn.cI 4 (pc := 6) (ls := [.ref 148]) (st := [.ref 148]) (x := m_X11_outOnes) (as := [.ref 148]) (rest := []) rfl rfl rfl rfl h ?_
  intro x1 I1 L1 h
  show dd_Rn (e + 16) m_X11_out (9, [.ref 148], [.int x1], sM Ln I1 L1 c s) _
  exact dd_Rn.retK 0 (pc := 9) (ls := [.ref 148]) (st := [.int x1]) (M := sM Ln I1 L1 c s) (o := (none, .int x1, sM Ln I1 L1 c s)) rfl rfl h (by omega)

theorem w_X11_far_0 {Ln d c s : Nat} {I : Nat → Nat → Int32} {L : Nat → Nat → Int64} {Q : dd_O → Prop} (hd : 28 ≤ d) (h : dd_Rn d m_X11_far (9, [.ref 148, .int (-1), .int 0], [], sM Ln (dd_u I 148 (upd (I 148) 0 0)) L c s) Q) : dd_Ev d m_X11_far [.ref 148] (sM Ln I L c s) Q := by
  obtain ⟨e, rfl⟩ : ∃ e, d = e + 16 := ⟨d - 16, by omega⟩
  show dd_Rn (e + 16) m_X11_far (0, [.ref 148, .null, .null], [], sM Ln I L c s) Q
  exact dd_Rn.go 7 (cf' := (9, [.ref 148, .int (-1), .int 0], [], sM Ln (dd_u I 148 (upd (I 148) 0 0)) L c s)) rfl h (by omega)

theorem w_X11_far_9 {Ln d c s : Nat} {I : Nat → Nat → Int32} {L : Nat → Nat → Int64} {Q : dd_O → Prop} {a1 a2 : Int32} (hd : 28 ≤ d) (h : ((I 149 1 ≤ a2 → Q (none, .int a1, sM Ln I L c s)) ∧ (¬ (I 149 1 ≤ a2) → ((0 ≤ ((187 : Int32) + ((5 : Int32) * a2)) + 3 ∧ tn (((187 : Int32) + ((5 : Int32) * a2)) + 3) < 2220) ∧ ((I 149 (tn (((187 : Int32) + ((5 : Int32) * a2)) + 3)) = 1 → dd_Rn d m_X11_far (9, [.ref 148, .int a1, .int (a2 + 1)], [], sM Ln I L c s) Q) ∧ (¬ (I 149 (tn (((187 : Int32) + ((5 : Int32) * a2)) + 3)) = 1) → ((a1 = (-1) → dd_Rn d m_X11_far (9, [.ref 148, .int a2, .int (a2 + 1)], [], sM Ln I L c s) Q) ∧ (¬ (a1 = (-1)) → ((0 ≤ ((187 : Int32) + ((5 : Int32) * a2)) + 0 ∧ tn (((187 : Int32) + ((5 : Int32) * a2)) + 0) < 2220) ∧ dd_Ev (d - 1) m_X11_nearOf [.ref 148, .int (I 149 (tn (((187 : Int32) + ((5 : Int32) * a2)) + 0)))] (sM Ln I L c s) (dd_RI Ln c s (fun x1 I1 L1 => ((0 ≤ ((187 : Int32) + ((5 : Int32) * a1)) + 0 ∧ tn (((187 : Int32) + ((5 : Int32) * a1)) + 0) < 2220) ∧ dd_Ev (d - 1) m_X11_nearOf [.ref 148, .int (I1 149 (tn (((187 : Int32) + ((5 : Int32) * a1)) + 0)))] (sM Ln I1 L1 c s) (dd_RI Ln c s (fun x2 I2 L2 => ((x1 ≤ x2 → dd_Rn d m_X11_far (9, [.ref 148, .int a1, .int (a2 + 1)], [], sM Ln I2 L2 c s) Q) ∧ (¬ (x1 ≤ x2) → dd_Rn d m_X11_far (9, [.ref 148, .int a2, .int (a2 + 1)], [], sM Ln I2 L2 c s) Q)))))))))))))))) : dd_Rn d m_X11_far (9, [.ref 148, .int a1, .int a2], [], sM Ln I L c s) Q := by
  obtain ⟨e, rfl⟩ : ∃ e, d = e + 16 := ⟨d - 16, by omega⟩
  refine dd_Rn.sub 2 (pc := 11) (ls := [.ref 148, .int a1, .int a2]) (st := [.ref 148, .int a2]) (M := sM Ln I L c s) (x := m_X11_boys) (as := [.ref 148]) (rest := [.int a2]) rfl rfl rfl rfl ?_
  show dd_Rn (e + 15) m_X11_boys (0, [.ref 148], [], sM Ln I L c s) _
  refine dd_Rn.retK 4 (pc := 6) (ls := [.ref 148]) (st := [.int (I 149 1)]) (M := sM Ln I L c s) (o := (none, .int (I 149 1), sM Ln I L c s)) rfl rfl (dd_Af.ret rfl ?_) (by omega)
  show dd_Rn (e + 16) m_X11_far (14, [.ref 148, .int a1, .int a2], [.int (I 149 1), .int a2], sM Ln I L c s) _
  refine dd_Rn.ite 0 (c := I 149 1 ≤ a2) (A := (61, [.ref 148, .int a1, .int a2], [], sM Ln I L c s)) (B := (17, [.ref 148, .int a1, .int a2], [], sM Ln I L c s)) rfl (fun hc => ?_) (fun hc => ?_) (by omega)
  · have h := h.1 hc
    exact dd_Rn.retK 1 (pc := 62) (ls := [.ref 148, .int a1, .int a2]) (st := [.int a1]) (M := sM Ln I L c s) (o := (none, .int a1, sM Ln I L c s)) rfl rfl h (by omega)
  · have h := h.2 hc
    refine dd_Rn.sub 2 (pc := 19) (ls := [.ref 148, .int a1, .int a2]) (st := [.int a2, .ref 148]) (M := sM Ln I L c s) (x := m_X11_isIn) (as := [.ref 148, .int a2]) (rest := []) rfl rfl rfl rfl ?_
    show dd_Rn (e + 15) m_X11_isIn (0, [.ref 148, .int a2], [], sM Ln I L c s) _
    refine dd_Rn.sub 3 (pc := 3) (ls := [.ref 148, .int a2]) (st := [.int 3, .int a2, .ref 148]) (M := sM Ln I L c s) (x := m_X11_of) (as := [.ref 148, .int a2, .int 3]) (rest := []) rfl rfl rfl rfl ?_
    show dd_Rn (e + 14) m_X11_of (0, [.ref 148, .int a2, .int 3], [], sM Ln I L c s) _
    refine dd_Rn.sub 4 (pc := 6) (ls := [.ref 148, .int a2, .int 3]) (st := [.int 3, .int a2, .ref 149]) (M := sM Ln I L c s) (x := m_X11_at) (as := [.int a2, .int 3]) (rest := [.ref 149]) rfl rfl rfl rfl ?_
    show dd_Rn (e + 13) m_X11_at (0, [.int a2, .int 3], [], sM Ln I L c s) _
    refine dd_Rn.retK 7 (pc := 9) (ls := [.int a2, .int 3]) (st := [.int (((187 : Int32) + ((5 : Int32) * a2)) + 3)]) (M := sM Ln I L c s) (o := (none, .int (((187 : Int32) + ((5 : Int32) * a2)) + 3), sM Ln I L c s)) rfl rfl (dd_Af.ret rfl ?_) (by omega)
    show dd_Rn (e + 14) m_X11_of (9, [.ref 148, .int a2, .int 3], [.int (((187 : Int32) + ((5 : Int32) * a2)) + 3), .ref 149], sM Ln I L c s) _
    obtain ⟨hc, h⟩ := h
    refine dd_Rn.ci (fun j0 => (9, [.ref 148, .int a2, .int 3], [.int j0, .ref 149], sM Ln I L c s)) (fun j0 => (10, [.ref 148, .int a2, .int 3], [.int (I 149 (tn j0))], sM Ln I L c s)) (fun j0 => 0 ≤ j0 ∧ tn j0 < 2220) (((187 : Int32) + ((5 : Int32) * a2)) + 3) (fun j0 hc h => dd_Rn.chk 0 (c := 0 ≤ j0 ∧ tn j0 < 2220) (A := (10, [.ref 148, .int a2, .int 3], [.int (I 149 (tn j0))], sM Ln I L c s)) rfl hc h (by omega)) hc ?_
    refine dd_Rn.se (cf := (10, [.ref 148, .int a2, .int 3], [.int (I 149 (tn (((187 : Int32) + ((5 : Int32) * a2)) + 3)))], sM Ln I L c s)) ?_
    refine dd_Rn.retK 0 (pc := 10) (ls := [.ref 148, .int a2, .int 3]) (st := [.int (I 149 (tn (((187 : Int32) + ((5 : Int32) * a2)) + 3)))]) (M := sM Ln I L c s) (o := (none, .int (I 149 (tn (((187 : Int32) + ((5 : Int32) * a2)) + 3))), sM Ln I L c s)) rfl rfl (dd_Af.ret rfl ?_) (by omega)
    show dd_Rn (e + 15) m_X11_isIn (6, [.ref 148, .int a2], [.int (I 149 (tn (((187 : Int32) + ((5 : Int32) * a2)) + 3)))], sM Ln I L c s) _
    refine dd_Rn.ite 1 (c := I 149 (tn (((187 : Int32) + ((5 : Int32) * a2)) + 3)) = 1) (A := (10, [.ref 148, .int a2], [], sM Ln I L c s)) (B := (14, [.ref 148, .int a2], [], sM Ln I L c s)) rfl (fun hc => ?_) (fun hc => ?_) (by omega)
    · have h := h.1 hc
      refine dd_Rn.retK 2 (pc := 15) (ls := [.ref 148, .int a2]) (st := [.int 1]) (M := sM Ln I L c s) (o := (none, .int 1, sM Ln I L c s)) rfl rfl (dd_Af.ret rfl ?_) (by omega)
      show dd_Rn (e + 16) m_X11_far (22, [.ref 148, .int a1, .int a2], [.int 1], sM Ln I L c s) _
      exact dd_Rn.go 3 (cf' := (9, [.ref 148, .int a1, .int (a2 + 1)], [], sM Ln I L c s)) rfl h (by omega)
    · have h := h.2 hc
      refine dd_Rn.retK 1 (pc := 15) (ls := [.ref 148, .int a2]) (st := [.int 0]) (M := sM Ln I L c s) (o := (none, .int 0, sM Ln I L c s)) rfl rfl (dd_Af.ret rfl ?_) (by omega)
      show dd_Rn (e + 16) m_X11_far (22, [.ref 148, .int a1, .int a2], [.int 0], sM Ln I L c s) _
      refine dd_Rn.ite 3 (c := a1 = (-1)) (A := (53, [.ref 148, .int a1, .int a2], [], sM Ln I L c s)) (B := (30, [.ref 148, .int a1, .int a2], [], sM Ln I L c s)) rfl (fun hc => ?_) (fun hc => ?_) (by omega)
      · have h := h.1 hc
        exact dd_Rn.go 4 (cf' := (9, [.ref 148, .int a2, .int (a2 + 1)], [], sM Ln I L c s)) rfl h (by omega)
      · have h := h.2 hc
        refine dd_Rn.sub 4 (pc := 34) (ls := [.ref 148, .int a1, .int a2]) (st := [.int 0, .int a2, .ref 148, .ref 148]) (M := sM Ln I L c s) (x := m_X11_of) (as := [.ref 148, .int a2, .int 0]) (rest := [.ref 148]) rfl rfl rfl rfl ?_
        show dd_Rn (e + 15) m_X11_of (0, [.ref 148, .int a2, .int 0], [], sM Ln I L c s) _
        refine dd_Rn.sub 4 (pc := 6) (ls := [.ref 148, .int a2, .int 0]) (st := [.int 0, .int a2, .ref 149]) (M := sM Ln I L c s) (x := m_X11_at) (as := [.int a2, .int 0]) (rest := [.ref 149]) rfl rfl rfl rfl ?_
        show dd_Rn (e + 14) m_X11_at (0, [.int a2, .int 0], [], sM Ln I L c s) _
        refine dd_Rn.retK 7 (pc := 9) (ls := [.int a2, .int 0]) (st := [.int (((187 : Int32) + ((5 : Int32) * a2)) + 0)]) (M := sM Ln I L c s) (o := (none, .int (((187 : Int32) + ((5 : Int32) * a2)) + 0), sM Ln I L c s)) rfl rfl (dd_Af.ret rfl ?_) (by omega)
        show dd_Rn (e + 15) m_X11_of (9, [.ref 148, .int a2, .int 0], [.int (((187 : Int32) + ((5 : Int32) * a2)) + 0), .ref 149], sM Ln I L c s) _
        obtain ⟨hc, h⟩ := h
        refine dd_Rn.ci (fun j0 => (9, [.ref 148, .int a2, .int 0], [.int j0, .ref 149], sM Ln I L c s)) (fun j0 => (10, [.ref 148, .int a2, .int 0], [.int (I 149 (tn j0))], sM Ln I L c s)) (fun j0 => 0 ≤ j0 ∧ tn j0 < 2220) (((187 : Int32) + ((5 : Int32) * a2)) + 0) (fun j0 hc h => dd_Rn.chk 0 (c := 0 ≤ j0 ∧ tn j0 < 2220) (A := (10, [.ref 148, .int a2, .int 0], [.int (I 149 (tn j0))], sM Ln I L c s)) rfl hc h (by omega)) hc ?_
        refine dd_Rn.se (cf := (10, [.ref 148, .int a2, .int 0], [.int (I 149 (tn (((187 : Int32) + ((5 : Int32) * a2)) + 0)))], sM Ln I L c s)) ?_
        refine dd_Rn.retK 0 (pc := 10) (ls := [.ref 148, .int a2, .int 0]) (st := [.int (I 149 (tn (((187 : Int32) + ((5 : Int32) * a2)) + 0)))]) (M := sM Ln I L c s) (o := (none, .int (I 149 (tn (((187 : Int32) + ((5 : Int32) * a2)) + 0))), sM Ln I L c s)) rfl rfl (dd_Af.ret rfl ?_) (by omega)
        show dd_Rn (e + 16) m_X11_far (37, [.ref 148, .int a1, .int a2], [.int (I 149 (tn (((187 : Int32) + ((5 : Int32) * a2)) + 0))), .ref 148], sM Ln I L c s) _
        refine dd_Rn.cI 0 (pc := 37) (ls := [.ref 148, .int a1, .int a2]) (st := [.int (I 149 (tn (((187 : Int32) + ((5 : Int32) * a2)) + 0))), .ref 148]) (x := m_X11_nearOf) (as := [.ref 148, .int (I 149 (tn (((187 : Int32) + ((5 : Int32) * a2)) + 0)))]) (rest := []) rfl rfl rfl rfl h ?_
        intro x1 I1 L1 h
        show dd_Rn (e + 16) m_X11_far (40, [.ref 148, .int a1, .int a2], [.int x1], sM Ln I1 L1 c s) _
        refine dd_Rn.sub 4 (pc := 44) (ls := [.ref 148, .int a1, .int a2]) (st := [.int 0, .int a1, .ref 148, .ref 148, .int x1]) (M := sM Ln I1 L1 c s) (x := m_X11_of) (as := [.ref 148, .int a1, .int 0]) (rest := [.ref 148, .int x1]) rfl rfl rfl rfl ?_
        show dd_Rn (e + 15) m_X11_of (0, [.ref 148, .int a1, .int 0], [], sM Ln I1 L1 c s) _
        refine dd_Rn.sub 4 (pc := 6) (ls := [.ref 148, .int a1, .int 0]) (st := [.int 0, .int a1, .ref 149]) (M := sM Ln I1 L1 c s) (x := m_X11_at) (as := [.int a1, .int 0]) (rest := [.ref 149]) rfl rfl rfl rfl ?_
        show dd_Rn (e + 14) m_X11_at (0, [.int a1, .int 0], [], sM Ln I1 L1 c s) _
        refine dd_Rn.retK 7 (pc := 9) (ls := [.int a1, .int 0]) (st := [.int (((187 : Int32) + ((5 : Int32) * a1)) + 0)]) (M := sM Ln I1 L1 c s) (o := (none, .int (((187 : Int32) + ((5 : Int32) * a1)) + 0), sM Ln I1 L1 c s)) rfl rfl (dd_Af.ret rfl ?_) (by omega)
        show dd_Rn (e + 15) m_X11_of (9, [.ref 148, .int a1, .int 0], [.int (((187 : Int32) + ((5 : Int32) * a1)) + 0), .ref 149], sM Ln I1 L1 c s) _
        obtain ⟨hc, h⟩ := h
        refine dd_Rn.ci (fun j0 => (9, [.ref 148, .int a1, .int 0], [.int j0, .ref 149], sM Ln I1 L1 c s)) (fun j0 => (10, [.ref 148, .int a1, .int 0], [.int (I1 149 (tn j0))], sM Ln I1 L1 c s)) (fun j0 => 0 ≤ j0 ∧ tn j0 < 2220) (((187 : Int32) + ((5 : Int32) * a1)) + 0) (fun j0 hc h => dd_Rn.chk 0 (c := 0 ≤ j0 ∧ tn j0 < 2220) (A := (10, [.ref 148, .int a1, .int 0], [.int (I1 149 (tn j0))], sM Ln I1 L1 c s)) rfl hc h (by omega)) hc ?_
        refine dd_Rn.se (cf := (10, [.ref 148, .int a1, .int 0], [.int (I1 149 (tn (((187 : Int32) + ((5 : Int32) * a1)) + 0)))], sM Ln I1 L1 c s)) ?_
        refine dd_Rn.retK 0 (pc := 10) (ls := [.ref 148, .int a1, .int 0]) (st := [.int (I1 149 (tn (((187 : Int32) + ((5 : Int32) * a1)) + 0)))]) (M := sM Ln I1 L1 c s) (o := (none, .int (I1 149 (tn (((187 : Int32) + ((5 : Int32) * a1)) + 0))), sM Ln I1 L1 c s)) rfl rfl (dd_Af.ret rfl ?_) (by omega)
        show dd_Rn (e + 16) m_X11_far (47, [.ref 148, .int a1, .int a2], [.int (I1 149 (tn (((187 : Int32) + ((5 : Int32) * a1)) + 0))), .ref 148, .int x1], sM Ln I1 L1 c s) _
        refine dd_Rn.cI 0 (pc := 47) (ls := [.ref 148, .int a1, .int a2]) (st := [.int (I1 149 (tn (((187 : Int32) + ((5 : Int32) * a1)) + 0))), .ref 148, .int x1]) (x := m_X11_nearOf) (as := [.ref 148, .int (I1 149 (tn (((187 : Int32) + ((5 : Int32) * a1)) + 0)))]) (rest := [.int x1]) rfl rfl rfl rfl h ?_
        intro x2 I2 L2 h
        show dd_Rn (e + 16) m_X11_far (50, [.ref 148, .int a1, .int a2], [.int x2, .int x1], sM Ln I2 L2 c s) _
        refine dd_Rn.ite 0 (c := x1 ≤ x2) (A := (55, [.ref 148, .int a1, .int a2], [], sM Ln I2 L2 c s)) (B := (53, [.ref 148, .int a1, .int a2], [], sM Ln I2 L2 c s)) rfl (fun hc => ?_) (fun hc => ?_) (by omega)
        · have h := h.1 hc
          exact dd_Rn.go 2 (cf' := (9, [.ref 148, .int a1, .int (a2 + 1)], [], sM Ln I2 L2 c s)) rfl h (by omega)
        · have h := h.2 hc
          exact dd_Rn.go 4 (cf' := (9, [.ref 148, .int a2, .int (a2 + 1)], [], sM Ln I2 L2 c s)) rfl h (by omega)

theorem w_X11_worst_0 {Ln d c s : Nat} {I : Nat → Nat → Int32} {L : Nat → Nat → Int64} {Q : dd_O → Prop} (hd : 28 ≤ d) (h : dd_Rn d m_X11_worst (9, [.ref 148, .int (-1), .int 0], [], sM Ln (dd_u I 148 (upd (I 148) 0 0)) L c s) Q) : dd_Ev d m_X11_worst [.ref 148] (sM Ln I L c s) Q := by
  obtain ⟨e, rfl⟩ : ∃ e, d = e + 16 := ⟨d - 16, by omega⟩
  show dd_Rn (e + 16) m_X11_worst (0, [.ref 148, .null, .null], [], sM Ln I L c s) Q
  exact dd_Rn.go 7 (cf' := (9, [.ref 148, .int (-1), .int 0], [], sM Ln (dd_u I 148 (upd (I 148) 0 0)) L c s)) rfl h (by omega)

theorem w_X11_worst_9 {Ln d c s : Nat} {I : Nat → Nat → Int32} {L : Nat → Nat → Int64} {Q : dd_O → Prop} {a1 a2 : Int32} (hd : 28 ≤ d) (h : ((I 149 1 ≤ a2 → Q (none, .int a1, sM Ln I L c s)) ∧ (¬ (I 149 1 ≤ a2) → ((0 ≤ ((187 : Int32) + ((5 : Int32) * a2)) + 4 ∧ tn (((187 : Int32) + ((5 : Int32) * a2)) + 4) < 2220) ∧ ((I 149 (tn (((187 : Int32) + ((5 : Int32) * a2)) + 4)) ≤ 0 → dd_Rn d m_X11_worst (9, [.ref 148, .int a1, .int (a2 + 1)], [], sM Ln I L c s) Q) ∧ (¬ (I 149 (tn (((187 : Int32) + ((5 : Int32) * a2)) + 4)) ≤ 0) → ((a1 = (-1) → dd_Rn d m_X11_worst (9, [.ref 148, .int a2, .int (a2 + 1)], [], sM Ln I L c s) Q) ∧ (¬ (a1 = (-1)) → ((0 ≤ ((187 : Int32) + ((5 : Int32) * a2)) + 4 ∧ tn (((187 : Int32) + ((5 : Int32) * a2)) + 4) < 2220) ∧ ((0 ≤ ((187 : Int32) + ((5 : Int32) * a1)) + 4 ∧ tn (((187 : Int32) + ((5 : Int32) * a1)) + 4) < 2220) ∧ ((I 149 (tn (((187 : Int32) + ((5 : Int32) * a2)) + 4)) ≤ I 149 (tn (((187 : Int32) + ((5 : Int32) * a1)) + 4)) → dd_Rn d m_X11_worst (9, [.ref 148, .int a1, .int (a2 + 1)], [], sM Ln I L c s) Q) ∧ (¬ (I 149 (tn (((187 : Int32) + ((5 : Int32) * a2)) + 4)) ≤ I 149 (tn (((187 : Int32) + ((5 : Int32) * a1)) + 4))) → dd_Rn d m_X11_worst (9, [.ref 148, .int a2, .int (a2 + 1)], [], sM Ln I L c s) Q)))))))))))) : dd_Rn d m_X11_worst (9, [.ref 148, .int a1, .int a2], [], sM Ln I L c s) Q := by
  obtain ⟨e, rfl⟩ : ∃ e, d = e + 16 := ⟨d - 16, by omega⟩
  refine dd_Rn.sub 2 (pc := 11) (ls := [.ref 148, .int a1, .int a2]) (st := [.ref 148, .int a2]) (M := sM Ln I L c s) (x := m_X11_boys) (as := [.ref 148]) (rest := [.int a2]) rfl rfl rfl rfl ?_
  show dd_Rn (e + 15) m_X11_boys (0, [.ref 148], [], sM Ln I L c s) _
  refine dd_Rn.retK 4 (pc := 6) (ls := [.ref 148]) (st := [.int (I 149 1)]) (M := sM Ln I L c s) (o := (none, .int (I 149 1), sM Ln I L c s)) rfl rfl (dd_Af.ret rfl ?_) (by omega)
  show dd_Rn (e + 16) m_X11_worst (14, [.ref 148, .int a1, .int a2], [.int (I 149 1), .int a2], sM Ln I L c s) _
  refine dd_Rn.ite 0 (c := I 149 1 ≤ a2) (A := (54, [.ref 148, .int a1, .int a2], [], sM Ln I L c s)) (B := (17, [.ref 148, .int a1, .int a2], [], sM Ln I L c s)) rfl (fun hc => ?_) (fun hc => ?_) (by omega)
  · have h := h.1 hc
    exact dd_Rn.retK 1 (pc := 55) (ls := [.ref 148, .int a1, .int a2]) (st := [.int a1]) (M := sM Ln I L c s) (o := (none, .int a1, sM Ln I L c s)) rfl rfl h (by omega)
  · have h := h.2 hc
    refine dd_Rn.sub 3 (pc := 20) (ls := [.ref 148, .int a1, .int a2]) (st := [.int 4, .int a2, .ref 148]) (M := sM Ln I L c s) (x := m_X11_of) (as := [.ref 148, .int a2, .int 4]) (rest := []) rfl rfl rfl rfl ?_
    show dd_Rn (e + 15) m_X11_of (0, [.ref 148, .int a2, .int 4], [], sM Ln I L c s) _
    refine dd_Rn.sub 4 (pc := 6) (ls := [.ref 148, .int a2, .int 4]) (st := [.int 4, .int a2, .ref 149]) (M := sM Ln I L c s) (x := m_X11_at) (as := [.int a2, .int 4]) (rest := [.ref 149]) rfl rfl rfl rfl ?_
    show dd_Rn (e + 14) m_X11_at (0, [.int a2, .int 4], [], sM Ln I L c s) _
    refine dd_Rn.retK 7 (pc := 9) (ls := [.int a2, .int 4]) (st := [.int (((187 : Int32) + ((5 : Int32) * a2)) + 4)]) (M := sM Ln I L c s) (o := (none, .int (((187 : Int32) + ((5 : Int32) * a2)) + 4), sM Ln I L c s)) rfl rfl (dd_Af.ret rfl ?_) (by omega)
    show dd_Rn (e + 15) m_X11_of (9, [.ref 148, .int a2, .int 4], [.int (((187 : Int32) + ((5 : Int32) * a2)) + 4), .ref 149], sM Ln I L c s) _
    obtain ⟨hc, h⟩ := h
    refine dd_Rn.ci (fun j0 => (9, [.ref 148, .int a2, .int 4], [.int j0, .ref 149], sM Ln I L c s)) (fun j0 => (10, [.ref 148, .int a2, .int 4], [.int (I 149 (tn j0))], sM Ln I L c s)) (fun j0 => 0 ≤ j0 ∧ tn j0 < 2220) (((187 : Int32) + ((5 : Int32) * a2)) + 4) (fun j0 hc h => dd_Rn.chk 0 (c := 0 ≤ j0 ∧ tn j0 < 2220) (A := (10, [.ref 148, .int a2, .int 4], [.int (I 149 (tn j0))], sM Ln I L c s)) rfl hc h (by omega)) hc ?_
    refine dd_Rn.se (cf := (10, [.ref 148, .int a2, .int 4], [.int (I 149 (tn (((187 : Int32) + ((5 : Int32) * a2)) + 4)))], sM Ln I L c s)) ?_
    refine dd_Rn.retK 0 (pc := 10) (ls := [.ref 148, .int a2, .int 4]) (st := [.int (I 149 (tn (((187 : Int32) + ((5 : Int32) * a2)) + 4)))]) (M := sM Ln I L c s) (o := (none, .int (I 149 (tn (((187 : Int32) + ((5 : Int32) * a2)) + 4))), sM Ln I L c s)) rfl rfl (dd_Af.ret rfl ?_) (by omega)
    show dd_Rn (e + 16) m_X11_worst (23, [.ref 148, .int a1, .int a2], [.int (I 149 (tn (((187 : Int32) + ((5 : Int32) * a2)) + 4)))], sM Ln I L c s) _
    refine dd_Rn.ite 0 (c := I 149 (tn (((187 : Int32) + ((5 : Int32) * a2)) + 4)) ≤ 0) (A := (48, [.ref 148, .int a1, .int a2], [], sM Ln I L c s)) (B := (26, [.ref 148, .int a1, .int a2], [], sM Ln I L c s)) rfl (fun hc => ?_) (fun hc => ?_) (by omega)
    · have h := h.1 hc
      exact dd_Rn.go 2 (cf' := (9, [.ref 148, .int a1, .int (a2 + 1)], [], sM Ln I L c s)) rfl h (by omega)
    · have h := h.2 hc
      refine dd_Rn.ite 2 (c := a1 = (-1)) (A := (46, [.ref 148, .int a1, .int a2], [], sM Ln I L c s)) (B := (31, [.ref 148, .int a1, .int a2], [], sM Ln I L c s)) rfl (fun hc => ?_) (fun hc => ?_) (by omega)
      · have h := h.1 hc
        exact dd_Rn.go 4 (cf' := (9, [.ref 148, .int a2, .int (a2 + 1)], [], sM Ln I L c s)) rfl h (by omega)
      · have h := h.2 hc
        refine dd_Rn.sub 3 (pc := 34) (ls := [.ref 148, .int a1, .int a2]) (st := [.int 4, .int a2, .ref 148]) (M := sM Ln I L c s) (x := m_X11_of) (as := [.ref 148, .int a2, .int 4]) (rest := []) rfl rfl rfl rfl ?_
        show dd_Rn (e + 15) m_X11_of (0, [.ref 148, .int a2, .int 4], [], sM Ln I L c s) _
        refine dd_Rn.sub 4 (pc := 6) (ls := [.ref 148, .int a2, .int 4]) (st := [.int 4, .int a2, .ref 149]) (M := sM Ln I L c s) (x := m_X11_at) (as := [.int a2, .int 4]) (rest := [.ref 149]) rfl rfl rfl rfl ?_
        show dd_Rn (e + 14) m_X11_at (0, [.int a2, .int 4], [], sM Ln I L c s) _
        refine dd_Rn.retK 7 (pc := 9) (ls := [.int a2, .int 4]) (st := [.int (((187 : Int32) + ((5 : Int32) * a2)) + 4)]) (M := sM Ln I L c s) (o := (none, .int (((187 : Int32) + ((5 : Int32) * a2)) + 4), sM Ln I L c s)) rfl rfl (dd_Af.ret rfl ?_) (by omega)
        show dd_Rn (e + 15) m_X11_of (9, [.ref 148, .int a2, .int 4], [.int (((187 : Int32) + ((5 : Int32) * a2)) + 4), .ref 149], sM Ln I L c s) _
        obtain ⟨hc, h⟩ := h
        refine dd_Rn.ci (fun j0 => (9, [.ref 148, .int a2, .int 4], [.int j0, .ref 149], sM Ln I L c s)) (fun j0 => (10, [.ref 148, .int a2, .int 4], [.int (I 149 (tn j0))], sM Ln I L c s)) (fun j0 => 0 ≤ j0 ∧ tn j0 < 2220) (((187 : Int32) + ((5 : Int32) * a2)) + 4) (fun j0 hc h => dd_Rn.chk 0 (c := 0 ≤ j0 ∧ tn j0 < 2220) (A := (10, [.ref 148, .int a2, .int 4], [.int (I 149 (tn j0))], sM Ln I L c s)) rfl hc h (by omega)) hc ?_
        refine dd_Rn.se (cf := (10, [.ref 148, .int a2, .int 4], [.int (I 149 (tn (((187 : Int32) + ((5 : Int32) * a2)) + 4)))], sM Ln I L c s)) ?_
        refine dd_Rn.retK 0 (pc := 10) (ls := [.ref 148, .int a2, .int 4]) (st := [.int (I 149 (tn (((187 : Int32) + ((5 : Int32) * a2)) + 4)))]) (M := sM Ln I L c s) (o := (none, .int (I 149 (tn (((187 : Int32) + ((5 : Int32) * a2)) + 4))), sM Ln I L c s)) rfl rfl (dd_Af.ret rfl ?_) (by omega)
        show dd_Rn (e + 16) m_X11_worst (37, [.ref 148, .int a1, .int a2], [.int (I 149 (tn (((187 : Int32) + ((5 : Int32) * a2)) + 4)))], sM Ln I L c s) _
        refine dd_Rn.sub 3 (pc := 40) (ls := [.ref 148, .int a1, .int a2]) (st := [.int 4, .int a1, .ref 148, .int (I 149 (tn (((187 : Int32) + ((5 : Int32) * a2)) + 4)))]) (M := sM Ln I L c s) (x := m_X11_of) (as := [.ref 148, .int a1, .int 4]) (rest := [.int (I 149 (tn (((187 : Int32) + ((5 : Int32) * a2)) + 4)))]) rfl rfl rfl rfl ?_
        show dd_Rn (e + 15) m_X11_of (0, [.ref 148, .int a1, .int 4], [], sM Ln I L c s) _
        refine dd_Rn.sub 4 (pc := 6) (ls := [.ref 148, .int a1, .int 4]) (st := [.int 4, .int a1, .ref 149]) (M := sM Ln I L c s) (x := m_X11_at) (as := [.int a1, .int 4]) (rest := [.ref 149]) rfl rfl rfl rfl ?_
        show dd_Rn (e + 14) m_X11_at (0, [.int a1, .int 4], [], sM Ln I L c s) _
        refine dd_Rn.retK 7 (pc := 9) (ls := [.int a1, .int 4]) (st := [.int (((187 : Int32) + ((5 : Int32) * a1)) + 4)]) (M := sM Ln I L c s) (o := (none, .int (((187 : Int32) + ((5 : Int32) * a1)) + 4), sM Ln I L c s)) rfl rfl (dd_Af.ret rfl ?_) (by omega)
        show dd_Rn (e + 15) m_X11_of (9, [.ref 148, .int a1, .int 4], [.int (((187 : Int32) + ((5 : Int32) * a1)) + 4), .ref 149], sM Ln I L c s) _
        obtain ⟨hc, h⟩ := h
        refine dd_Rn.ci (fun j0 => (9, [.ref 148, .int a1, .int 4], [.int j0, .ref 149], sM Ln I L c s)) (fun j0 => (10, [.ref 148, .int a1, .int 4], [.int (I 149 (tn j0))], sM Ln I L c s)) (fun j0 => 0 ≤ j0 ∧ tn j0 < 2220) (((187 : Int32) + ((5 : Int32) * a1)) + 4) (fun j0 hc h => dd_Rn.chk 0 (c := 0 ≤ j0 ∧ tn j0 < 2220) (A := (10, [.ref 148, .int a1, .int 4], [.int (I 149 (tn j0))], sM Ln I L c s)) rfl hc h (by omega)) hc ?_
        refine dd_Rn.se (cf := (10, [.ref 148, .int a1, .int 4], [.int (I 149 (tn (((187 : Int32) + ((5 : Int32) * a1)) + 4)))], sM Ln I L c s)) ?_
        refine dd_Rn.retK 0 (pc := 10) (ls := [.ref 148, .int a1, .int 4]) (st := [.int (I 149 (tn (((187 : Int32) + ((5 : Int32) * a1)) + 4)))]) (M := sM Ln I L c s) (o := (none, .int (I 149 (tn (((187 : Int32) + ((5 : Int32) * a1)) + 4))), sM Ln I L c s)) rfl rfl (dd_Af.ret rfl ?_) (by omega)
        show dd_Rn (e + 16) m_X11_worst (43, [.ref 148, .int a1, .int a2], [.int (I 149 (tn (((187 : Int32) + ((5 : Int32) * a1)) + 4))), .int (I 149 (tn (((187 : Int32) + ((5 : Int32) * a2)) + 4)))], sM Ln I L c s) _
        refine dd_Rn.ite 0 (c := I 149 (tn (((187 : Int32) + ((5 : Int32) * a2)) + 4)) ≤ I 149 (tn (((187 : Int32) + ((5 : Int32) * a1)) + 4))) (A := (48, [.ref 148, .int a1, .int a2], [], sM Ln I L c s)) (B := (46, [.ref 148, .int a1, .int a2], [], sM Ln I L c s)) rfl (fun hc => ?_) (fun hc => ?_) (by omega)
        · have h := h.1 hc
          exact dd_Rn.go 2 (cf' := (9, [.ref 148, .int a1, .int (a2 + 1)], [], sM Ln I L c s)) rfl h (by omega)
        · have h := h.2 hc
          exact dd_Rn.go 4 (cf' := (9, [.ref 148, .int a2, .int (a2 + 1)], [], sM Ln I L c s)) rfl h (by omega)

theorem w_X11_odds_0 {Ln d c s : Nat} {I : Nat → Nat → Int32} {L : Nat → Nat → Int64} {Q : dd_O → Prop} {a1 a2 : Int32} (hd : 28 ≤ d) (h : ((a1 < 0 → Q (none, .int 0, sM Ln (dd_u (dd_u I 148 (upd (I 148) 0 0)) 148 (upd (upd (I 148) 0 0) 0 1)) L c s)) ∧ (¬ (a1 < 0) → (((I 149 1) - 1 < a1 → Q (none, .int 0, sM Ln (dd_u (dd_u I 148 (upd (I 148) 0 0)) 148 (upd (upd (I 148) 0 0) 0 1)) L c s)) ∧ (¬ ((I 149 1) - 1 < a1) → ((a2 < 0 → Q (none, .int 0, sM Ln (dd_u (dd_u I 148 (upd (I 148) 0 0)) 148 (upd (upd (I 148) 0 0) 0 2)) L c s)) ∧ (¬ (a2 < 0) → (((4 : Int32) < a2 → Q (none, .int 0, sM Ln (dd_u (dd_u I 148 (upd (I 148) 0 0)) 148 (upd (upd (I 148) 0 0) 0 2)) L c s)) ∧ (¬ ((4 : Int32) < a2) → ((0 ≤ ((187 : Int32) + ((5 : Int32) * a1)) + 3 ∧ tn (((187 : Int32) + ((5 : Int32) * a1)) + 3) < 2220) ∧ ((I 149 (tn (((187 : Int32) + ((5 : Int32) * a1)) + 3)) = 1 → dd_Rn d m_X11_odds (72, [.ref 148, .int a1, .int a2, .int 10000, .int 1, .int 0], [], sM Ln (dd_u I 148 (upd (I 148) 0 0)) L c s) Q) ∧ (¬ (I 149 (tn (((187 : Int32) + ((5 : Int32) * a1)) + 3)) = 1) → dd_Ev (d - 1) m_X11_hears [.ref 148, .int a1] (sM Ln (dd_u I 148 (upd (I 148) 0 0)) L c s) (dd_RI Ln c s (fun x1 I1 L1 => ((x1 = 0 → dd_Rn d m_X11_odds (72, [.ref 148, .int a1, .int a2, .int 10000, .int 0, .int 0], [], sM Ln I1 L1 c s) Q) ∧ (¬ (x1 = 0) → dd_Rn d m_X11_odds (72, [.ref 148, .int a1, .int a2, .int 10000, .int 1, .int 0], [], sM Ln I1 L1 c s) Q)))))))))))))))) : dd_Ev d m_X11_odds [.ref 148, .int a1, .int a2] (sM Ln I L c s) Q := by
  obtain ⟨e, rfl⟩ : ∃ e, d = e + 16 := ⟨d - 16, by omega⟩
  show dd_Rn (e + 16) m_X11_odds (0, [.ref 148, .int a1, .int a2, .null, .null, .null], [], sM Ln I L c s) Q
  refine dd_Rn.sub 6 (pc := 8) (ls := [.ref 148, .int a1, .int a2, .null, .null, .null]) (st := [.int a1, .ref 148, .ref 148]) (M := sM Ln (dd_u I 148 (upd (I 148) 0 0)) L c s) (x := m_X11_noBoy) (as := [.ref 148, .int a1]) (rest := [.ref 148]) rfl rfl rfl rfl ?_
  show dd_Rn (e + 15) m_X11_noBoy (0, [.ref 148, .int a1], [], sM Ln (dd_u I 148 (upd (I 148) 0 0)) L c s) _
  refine dd_Rn.sub 3 (pc := 3) (ls := [.ref 148, .int a1]) (st := [.ref 148, .int 0, .int a1]) (M := sM Ln (dd_u I 148 (upd (I 148) 0 0)) L c s) (x := m_X11_boys) (as := [.ref 148]) (rest := [.int 0, .int a1]) rfl rfl rfl rfl ?_
  show dd_Rn (e + 14) m_X11_boys (0, [.ref 148], [], sM Ln (dd_u I 148 (upd (I 148) 0 0)) L c s) _
  refine dd_Rn.retK 4 (pc := 6) (ls := [.ref 148]) (st := [.int (I 149 1)]) (M := sM Ln (dd_u I 148 (upd (I 148) 0 0)) L c s) (o := (none, .int (I 149 1), sM Ln (dd_u I 148 (upd (I 148) 0 0)) L c s)) rfl rfl (dd_Af.ret rfl ?_) (by omega)
  show dd_Rn (e + 15) m_X11_noBoy (6, [.ref 148, .int a1], [.int (I 149 1), .int 0, .int a1], sM Ln (dd_u I 148 (upd (I 148) 0 0)) L c s) _
  refine dd_Rn.sub 2 (pc := 8) (ls := [.ref 148, .int a1]) (st := [.int ((I 149 1) - 1), .int 0, .int a1]) (M := sM Ln (dd_u I 148 (upd (I 148) 0 0)) L c s) (x := m_X11_in) (as := [.int a1, .int 0, .int ((I 149 1) - 1)]) (rest := []) rfl rfl rfl rfl ?_
  show dd_Rn (e + 14) m_X11_in (0, [.int a1, .int 0, .int ((I 149 1) - 1)], [], sM Ln (dd_u I 148 (upd (I 148) 0 0)) L c s) _
  refine dd_Rn.ite 2 (c := a1 < 0) (A := (14, [.int a1, .int 0, .int ((I 149 1) - 1)], [], sM Ln (dd_u I 148 (upd (I 148) 0 0)) L c s)) (B := (5, [.int a1, .int 0, .int ((I 149 1) - 1)], [], sM Ln (dd_u I 148 (upd (I 148) 0 0)) L c s)) rfl (fun hc => ?_) (fun hc => ?_) (by omega)
  · have h := h.1 hc
    refine dd_Rn.retK 1 (pc := 15) (ls := [.int a1, .int 0, .int ((I 149 1) - 1)]) (st := [.int 0]) (M := sM Ln (dd_u I 148 (upd (I 148) 0 0)) L c s) (o := (none, .int 0, sM Ln (dd_u I 148 (upd (I 148) 0 0)) L c s)) rfl rfl (dd_Af.ret rfl ?_) (by omega)
    show dd_Rn (e + 15) m_X11_noBoy (11, [.ref 148, .int a1], [.int 0], sM Ln (dd_u I 148 (upd (I 148) 0 0)) L c s) _
    refine dd_Rn.retK 3 (pc := 19) (ls := [.ref 148, .int a1]) (st := [.int 1]) (M := sM Ln (dd_u I 148 (upd (I 148) 0 0)) L c s) (o := (none, .int 1, sM Ln (dd_u I 148 (upd (I 148) 0 0)) L c s)) rfl rfl (dd_Af.ret rfl ?_) (by omega)
    show dd_Rn (e + 16) m_X11_odds (11, [.ref 148, .int a1, .int a2, .null, .null, .null], [.int 1, .ref 148], sM Ln (dd_u I 148 (upd (I 148) 0 0)) L c s) _
    refine dd_Rn.sub 1 (pc := 12) (ls := [.ref 148, .int a1, .int a2, .null, .null, .null]) (st := [.int 1, .int 1, .ref 148]) (M := sM Ln (dd_u I 148 (upd (I 148) 0 0)) L c s) (x := m_X11_throwsIf) (as := [.ref 148, .int 1, .int 1]) (rest := []) rfl rfl rfl rfl ?_
    show dd_Rn (e + 15) m_X11_throwsIf (0, [.ref 148, .int 1, .int 1], [], sM Ln (dd_u I 148 (upd (I 148) 0 0)) L c s) _
    refine dd_Rn.retK 6 (pc := 10) (ls := [.ref 148, .int 1, .int 1]) (st := [.int 1]) (M := sM Ln (dd_u (dd_u I 148 (upd (I 148) 0 0)) 148 (upd (upd (I 148) 0 0) 0 1)) L c s) (o := (none, .int 1, sM Ln (dd_u (dd_u I 148 (upd (I 148) 0 0)) 148 (upd (upd (I 148) 0 0) 0 1)) L c s)) rfl rfl (dd_Af.ret rfl ?_) (by omega)
    show dd_Rn (e + 16) m_X11_odds (15, [.ref 148, .int a1, .int a2, .null, .null, .null], [.int 1], sM Ln (dd_u (dd_u I 148 (upd (I 148) 0 0)) 148 (upd (upd (I 148) 0 0) 0 1)) L c s) _
    exact dd_Rn.retK 2 (pc := 41) (ls := [.ref 148, .int a1, .int a2, .null, .null, .null]) (st := [.int 0]) (M := sM Ln (dd_u (dd_u I 148 (upd (I 148) 0 0)) 148 (upd (upd (I 148) 0 0) 0 1)) L c s) (o := (none, .int 0, sM Ln (dd_u (dd_u I 148 (upd (I 148) 0 0)) 148 (upd (upd (I 148) 0 0) 0 1)) L c s)) rfl rfl h (by omega)
  · have h := h.2 hc
    refine dd_Rn.ite 2 (c := (I 149 1) - 1 < a1) (A := (14, [.int a1, .int 0, .int ((I 149 1) - 1)], [], sM Ln (dd_u I 148 (upd (I 148) 0 0)) L c s)) (B := (10, [.int a1, .int 0, .int ((I 149 1) - 1)], [], sM Ln (dd_u I 148 (upd (I 148) 0 0)) L c s)) rfl (fun hc => ?_) (fun hc => ?_) (by omega)
    · have h := h.1 hc
      refine dd_Rn.retK 1 (pc := 15) (ls := [.int a1, .int 0, .int ((I 149 1) - 1)]) (st := [.int 0]) (M := sM Ln (dd_u I 148 (upd (I 148) 0 0)) L c s) (o := (none, .int 0, sM Ln (dd_u I 148 (upd (I 148) 0 0)) L c s)) rfl rfl (dd_Af.ret rfl ?_) (by omega)
      show dd_Rn (e + 15) m_X11_noBoy (11, [.ref 148, .int a1], [.int 0], sM Ln (dd_u I 148 (upd (I 148) 0 0)) L c s) _
      refine dd_Rn.retK 3 (pc := 19) (ls := [.ref 148, .int a1]) (st := [.int 1]) (M := sM Ln (dd_u I 148 (upd (I 148) 0 0)) L c s) (o := (none, .int 1, sM Ln (dd_u I 148 (upd (I 148) 0 0)) L c s)) rfl rfl (dd_Af.ret rfl ?_) (by omega)
      show dd_Rn (e + 16) m_X11_odds (11, [.ref 148, .int a1, .int a2, .null, .null, .null], [.int 1, .ref 148], sM Ln (dd_u I 148 (upd (I 148) 0 0)) L c s) _
      refine dd_Rn.sub 1 (pc := 12) (ls := [.ref 148, .int a1, .int a2, .null, .null, .null]) (st := [.int 1, .int 1, .ref 148]) (M := sM Ln (dd_u I 148 (upd (I 148) 0 0)) L c s) (x := m_X11_throwsIf) (as := [.ref 148, .int 1, .int 1]) (rest := []) rfl rfl rfl rfl ?_
      show dd_Rn (e + 15) m_X11_throwsIf (0, [.ref 148, .int 1, .int 1], [], sM Ln (dd_u I 148 (upd (I 148) 0 0)) L c s) _
      refine dd_Rn.retK 6 (pc := 10) (ls := [.ref 148, .int 1, .int 1]) (st := [.int 1]) (M := sM Ln (dd_u (dd_u I 148 (upd (I 148) 0 0)) 148 (upd (upd (I 148) 0 0) 0 1)) L c s) (o := (none, .int 1, sM Ln (dd_u (dd_u I 148 (upd (I 148) 0 0)) 148 (upd (upd (I 148) 0 0) 0 1)) L c s)) rfl rfl (dd_Af.ret rfl ?_) (by omega)
      show dd_Rn (e + 16) m_X11_odds (15, [.ref 148, .int a1, .int a2, .null, .null, .null], [.int 1], sM Ln (dd_u (dd_u I 148 (upd (I 148) 0 0)) 148 (upd (upd (I 148) 0 0) 0 1)) L c s) _
      exact dd_Rn.retK 2 (pc := 41) (ls := [.ref 148, .int a1, .int a2, .null, .null, .null]) (st := [.int 0]) (M := sM Ln (dd_u (dd_u I 148 (upd (I 148) 0 0)) 148 (upd (upd (I 148) 0 0) 0 1)) L c s) (o := (none, .int 0, sM Ln (dd_u (dd_u I 148 (upd (I 148) 0 0)) 148 (upd (upd (I 148) 0 0) 0 1)) L c s)) rfl rfl h (by omega)
    · have h := h.2 hc
      refine dd_Rn.retK 2 (pc := 15) (ls := [.int a1, .int 0, .int ((I 149 1) - 1)]) (st := [.int 1]) (M := sM Ln (dd_u I 148 (upd (I 148) 0 0)) L c s) (o := (none, .int 1, sM Ln (dd_u I 148 (upd (I 148) 0 0)) L c s)) rfl rfl (dd_Af.ret rfl ?_) (by omega)
      show dd_Rn (e + 15) m_X11_noBoy (11, [.ref 148, .int a1], [.int 1], sM Ln (dd_u I 148 (upd (I 148) 0 0)) L c s) _
      refine dd_Rn.retK 2 (pc := 19) (ls := [.ref 148, .int a1]) (st := [.int 0]) (M := sM Ln (dd_u I 148 (upd (I 148) 0 0)) L c s) (o := (none, .int 0, sM Ln (dd_u I 148 (upd (I 148) 0 0)) L c s)) rfl rfl (dd_Af.ret rfl ?_) (by omega)
      show dd_Rn (e + 16) m_X11_odds (11, [.ref 148, .int a1, .int a2, .null, .null, .null], [.int 0, .ref 148], sM Ln (dd_u I 148 (upd (I 148) 0 0)) L c s) _
      refine dd_Rn.sub 1 (pc := 12) (ls := [.ref 148, .int a1, .int a2, .null, .null, .null]) (st := [.int 1, .int 0, .ref 148]) (M := sM Ln (dd_u I 148 (upd (I 148) 0 0)) L c s) (x := m_X11_throwsIf) (as := [.ref 148, .int 0, .int 1]) (rest := []) rfl rfl rfl rfl ?_
      show dd_Rn (e + 15) m_X11_throwsIf (0, [.ref 148, .int 0, .int 1], [], sM Ln (dd_u I 148 (upd (I 148) 0 0)) L c s) _
      refine dd_Rn.retK 3 (pc := 10) (ls := [.ref 148, .int 0, .int 1]) (st := [.int 0]) (M := sM Ln (dd_u I 148 (upd (I 148) 0 0)) L c s) (o := (none, .int 0, sM Ln (dd_u I 148 (upd (I 148) 0 0)) L c s)) rfl rfl (dd_Af.ret rfl ?_) (by omega)
      show dd_Rn (e + 16) m_X11_odds (15, [.ref 148, .int a1, .int a2, .null, .null, .null], [.int 0], sM Ln (dd_u I 148 (upd (I 148) 0 0)) L c s) _
      refine dd_Rn.sub 5 (pc := 22) (ls := [.ref 148, .int a1, .int a2, .null, .null, .null]) (st := [.int 4, .int 0, .int a2, .ref 148]) (M := sM Ln (dd_u I 148 (upd (I 148) 0 0)) L c s) (x := m_X11_in) (as := [.int a2, .int 0, .int 4]) (rest := [.ref 148]) rfl rfl rfl rfl ?_
      show dd_Rn (e + 15) m_X11_in (0, [.int a2, .int 0, .int 4], [], sM Ln (dd_u I 148 (upd (I 148) 0 0)) L c s) _
      refine dd_Rn.ite 2 (c := a2 < 0) (A := (14, [.int a2, .int 0, .int 4], [], sM Ln (dd_u I 148 (upd (I 148) 0 0)) L c s)) (B := (5, [.int a2, .int 0, .int 4], [], sM Ln (dd_u I 148 (upd (I 148) 0 0)) L c s)) rfl (fun hc => ?_) (fun hc => ?_) (by omega)
      · have h := h.1 hc
        refine dd_Rn.retK 1 (pc := 15) (ls := [.int a2, .int 0, .int 4]) (st := [.int 0]) (M := sM Ln (dd_u I 148 (upd (I 148) 0 0)) L c s) (o := (none, .int 0, sM Ln (dd_u I 148 (upd (I 148) 0 0)) L c s)) rfl rfl (dd_Af.ret rfl ?_) (by omega)
        show dd_Rn (e + 16) m_X11_odds (25, [.ref 148, .int a1, .int a2, .null, .null, .null], [.int 0, .ref 148], sM Ln (dd_u I 148 (upd (I 148) 0 0)) L c s) _
        refine dd_Rn.sub 4 (pc := 34) (ls := [.ref 148, .int a1, .int a2, .null, .null, .null]) (st := [.int 2, .int 1, .ref 148]) (M := sM Ln (dd_u I 148 (upd (I 148) 0 0)) L c s) (x := m_X11_throwsIf) (as := [.ref 148, .int 1, .int 2]) (rest := []) rfl rfl rfl rfl ?_
        show dd_Rn (e + 15) m_X11_throwsIf (0, [.ref 148, .int 1, .int 2], [], sM Ln (dd_u I 148 (upd (I 148) 0 0)) L c s) _
        refine dd_Rn.retK 6 (pc := 10) (ls := [.ref 148, .int 1, .int 2]) (st := [.int 1]) (M := sM Ln (dd_u (dd_u I 148 (upd (I 148) 0 0)) 148 (upd (upd (I 148) 0 0) 0 2)) L c s) (o := (none, .int 1, sM Ln (dd_u (dd_u I 148 (upd (I 148) 0 0)) 148 (upd (upd (I 148) 0 0) 0 2)) L c s)) rfl rfl (dd_Af.ret rfl ?_) (by omega)
        show dd_Rn (e + 16) m_X11_odds (37, [.ref 148, .int a1, .int a2, .null, .null, .null], [.int 1], sM Ln (dd_u (dd_u I 148 (upd (I 148) 0 0)) 148 (upd (upd (I 148) 0 0) 0 2)) L c s) _
        exact dd_Rn.retK 2 (pc := 41) (ls := [.ref 148, .int a1, .int a2, .null, .null, .null]) (st := [.int 0]) (M := sM Ln (dd_u (dd_u I 148 (upd (I 148) 0 0)) 148 (upd (upd (I 148) 0 0) 0 2)) L c s) (o := (none, .int 0, sM Ln (dd_u (dd_u I 148 (upd (I 148) 0 0)) 148 (upd (upd (I 148) 0 0) 0 2)) L c s)) rfl rfl h (by omega)
      · have h := h.2 hc
        refine dd_Rn.ite 2 (c := (4 : Int32) < a2) (A := (14, [.int a2, .int 0, .int 4], [], sM Ln (dd_u I 148 (upd (I 148) 0 0)) L c s)) (B := (10, [.int a2, .int 0, .int 4], [], sM Ln (dd_u I 148 (upd (I 148) 0 0)) L c s)) rfl (fun hc => ?_) (fun hc => ?_) (by omega)
        · have h := h.1 hc
          refine dd_Rn.retK 1 (pc := 15) (ls := [.int a2, .int 0, .int 4]) (st := [.int 0]) (M := sM Ln (dd_u I 148 (upd (I 148) 0 0)) L c s) (o := (none, .int 0, sM Ln (dd_u I 148 (upd (I 148) 0 0)) L c s)) rfl rfl (dd_Af.ret rfl ?_) (by omega)
          show dd_Rn (e + 16) m_X11_odds (25, [.ref 148, .int a1, .int a2, .null, .null, .null], [.int 0, .ref 148], sM Ln (dd_u I 148 (upd (I 148) 0 0)) L c s) _
          refine dd_Rn.sub 4 (pc := 34) (ls := [.ref 148, .int a1, .int a2, .null, .null, .null]) (st := [.int 2, .int 1, .ref 148]) (M := sM Ln (dd_u I 148 (upd (I 148) 0 0)) L c s) (x := m_X11_throwsIf) (as := [.ref 148, .int 1, .int 2]) (rest := []) rfl rfl rfl rfl ?_
          show dd_Rn (e + 15) m_X11_throwsIf (0, [.ref 148, .int 1, .int 2], [], sM Ln (dd_u I 148 (upd (I 148) 0 0)) L c s) _
          refine dd_Rn.retK 6 (pc := 10) (ls := [.ref 148, .int 1, .int 2]) (st := [.int 1]) (M := sM Ln (dd_u (dd_u I 148 (upd (I 148) 0 0)) 148 (upd (upd (I 148) 0 0) 0 2)) L c s) (o := (none, .int 1, sM Ln (dd_u (dd_u I 148 (upd (I 148) 0 0)) 148 (upd (upd (I 148) 0 0) 0 2)) L c s)) rfl rfl (dd_Af.ret rfl ?_) (by omega)
          show dd_Rn (e + 16) m_X11_odds (37, [.ref 148, .int a1, .int a2, .null, .null, .null], [.int 1], sM Ln (dd_u (dd_u I 148 (upd (I 148) 0 0)) 148 (upd (upd (I 148) 0 0) 0 2)) L c s) _
          exact dd_Rn.retK 2 (pc := 41) (ls := [.ref 148, .int a1, .int a2, .null, .null, .null]) (st := [.int 0]) (M := sM Ln (dd_u (dd_u I 148 (upd (I 148) 0 0)) 148 (upd (upd (I 148) 0 0) 0 2)) L c s) (o := (none, .int 0, sM Ln (dd_u (dd_u I 148 (upd (I 148) 0 0)) 148 (upd (upd (I 148) 0 0) 0 2)) L c s)) rfl rfl h (by omega)
        · have h := h.2 hc
          refine dd_Rn.retK 2 (pc := 15) (ls := [.int a2, .int 0, .int 4]) (st := [.int 1]) (M := sM Ln (dd_u I 148 (upd (I 148) 0 0)) L c s) (o := (none, .int 1, sM Ln (dd_u I 148 (upd (I 148) 0 0)) L c s)) rfl rfl (dd_Af.ret rfl ?_) (by omega)
          show dd_Rn (e + 16) m_X11_odds (25, [.ref 148, .int a1, .int a2, .null, .null, .null], [.int 1, .ref 148], sM Ln (dd_u I 148 (upd (I 148) 0 0)) L c s) _
          refine dd_Rn.sub 3 (pc := 34) (ls := [.ref 148, .int a1, .int a2, .null, .null, .null]) (st := [.int 2, .int 0, .ref 148]) (M := sM Ln (dd_u I 148 (upd (I 148) 0 0)) L c s) (x := m_X11_throwsIf) (as := [.ref 148, .int 0, .int 2]) (rest := []) rfl rfl rfl rfl ?_
          show dd_Rn (e + 15) m_X11_throwsIf (0, [.ref 148, .int 0, .int 2], [], sM Ln (dd_u I 148 (upd (I 148) 0 0)) L c s) _
          refine dd_Rn.retK 3 (pc := 10) (ls := [.ref 148, .int 0, .int 2]) (st := [.int 0]) (M := sM Ln (dd_u I 148 (upd (I 148) 0 0)) L c s) (o := (none, .int 0, sM Ln (dd_u I 148 (upd (I 148) 0 0)) L c s)) rfl rfl (dd_Af.ret rfl ?_) (by omega)
          show dd_Rn (e + 16) m_X11_odds (37, [.ref 148, .int a1, .int a2, .null, .null, .null], [.int 0], sM Ln (dd_u I 148 (upd (I 148) 0 0)) L c s) _
          refine dd_Rn.sub 5 (pc := 48) (ls := [.ref 148, .int a1, .int a2, .int 10000, .null, .null]) (st := [.int a1, .ref 148]) (M := sM Ln (dd_u I 148 (upd (I 148) 0 0)) L c s) (x := m_X11_isIn) (as := [.ref 148, .int a1]) (rest := []) rfl rfl rfl rfl ?_
          show dd_Rn (e + 15) m_X11_isIn (0, [.ref 148, .int a1], [], sM Ln (dd_u I 148 (upd (I 148) 0 0)) L c s) _
          refine dd_Rn.sub 3 (pc := 3) (ls := [.ref 148, .int a1]) (st := [.int 3, .int a1, .ref 148]) (M := sM Ln (dd_u I 148 (upd (I 148) 0 0)) L c s) (x := m_X11_of) (as := [.ref 148, .int a1, .int 3]) (rest := []) rfl rfl rfl rfl ?_
          show dd_Rn (e + 14) m_X11_of (0, [.ref 148, .int a1, .int 3], [], sM Ln (dd_u I 148 (upd (I 148) 0 0)) L c s) _
          refine dd_Rn.sub 4 (pc := 6) (ls := [.ref 148, .int a1, .int 3]) (st := [.int 3, .int a1, .ref 149]) (M := sM Ln (dd_u I 148 (upd (I 148) 0 0)) L c s) (x := m_X11_at) (as := [.int a1, .int 3]) (rest := [.ref 149]) rfl rfl rfl rfl ?_
          show dd_Rn (e + 13) m_X11_at (0, [.int a1, .int 3], [], sM Ln (dd_u I 148 (upd (I 148) 0 0)) L c s) _
          refine dd_Rn.retK 7 (pc := 9) (ls := [.int a1, .int 3]) (st := [.int (((187 : Int32) + ((5 : Int32) * a1)) + 3)]) (M := sM Ln (dd_u I 148 (upd (I 148) 0 0)) L c s) (o := (none, .int (((187 : Int32) + ((5 : Int32) * a1)) + 3), sM Ln (dd_u I 148 (upd (I 148) 0 0)) L c s)) rfl rfl (dd_Af.ret rfl ?_) (by omega)
          show dd_Rn (e + 14) m_X11_of (9, [.ref 148, .int a1, .int 3], [.int (((187 : Int32) + ((5 : Int32) * a1)) + 3), .ref 149], sM Ln (dd_u I 148 (upd (I 148) 0 0)) L c s) _
          obtain ⟨hc, h⟩ := h
          refine dd_Rn.ci (fun j0 => (9, [.ref 148, .int a1, .int 3], [.int j0, .ref 149], sM Ln (dd_u I 148 (upd (I 148) 0 0)) L c s)) (fun j0 => (10, [.ref 148, .int a1, .int 3], [.int (I 149 (tn j0))], sM Ln (dd_u I 148 (upd (I 148) 0 0)) L c s)) (fun j0 => 0 ≤ j0 ∧ tn j0 < 2220) (((187 : Int32) + ((5 : Int32) * a1)) + 3) (fun j0 hc h => dd_Rn.chk 0 (c := 0 ≤ j0 ∧ tn j0 < 2220) (A := (10, [.ref 148, .int a1, .int 3], [.int (I 149 (tn j0))], sM Ln (dd_u I 148 (upd (I 148) 0 0)) L c s)) rfl hc h (by omega)) hc ?_
          refine dd_Rn.se (cf := (10, [.ref 148, .int a1, .int 3], [.int (I 149 (tn (((187 : Int32) + ((5 : Int32) * a1)) + 3)))], sM Ln (dd_u I 148 (upd (I 148) 0 0)) L c s)) ?_
          refine dd_Rn.retK 0 (pc := 10) (ls := [.ref 148, .int a1, .int 3]) (st := [.int (I 149 (tn (((187 : Int32) + ((5 : Int32) * a1)) + 3)))]) (M := sM Ln (dd_u I 148 (upd (I 148) 0 0)) L c s) (o := (none, .int (I 149 (tn (((187 : Int32) + ((5 : Int32) * a1)) + 3))), sM Ln (dd_u I 148 (upd (I 148) 0 0)) L c s)) rfl rfl (dd_Af.ret rfl ?_) (by omega)
          show dd_Rn (e + 15) m_X11_isIn (6, [.ref 148, .int a1], [.int (I 149 (tn (((187 : Int32) + ((5 : Int32) * a1)) + 3)))], sM Ln (dd_u I 148 (upd (I 148) 0 0)) L c s) _
          refine dd_Rn.ite 1 (c := I 149 (tn (((187 : Int32) + ((5 : Int32) * a1)) + 3)) = 1) (A := (10, [.ref 148, .int a1], [], sM Ln (dd_u I 148 (upd (I 148) 0 0)) L c s)) (B := (14, [.ref 148, .int a1], [], sM Ln (dd_u I 148 (upd (I 148) 0 0)) L c s)) rfl (fun hc => ?_) (fun hc => ?_) (by omega)
          · have h := h.1 hc
            refine dd_Rn.retK 2 (pc := 15) (ls := [.ref 148, .int a1]) (st := [.int 1]) (M := sM Ln (dd_u I 148 (upd (I 148) 0 0)) L c s) (o := (none, .int 1, sM Ln (dd_u I 148 (upd (I 148) 0 0)) L c s)) rfl rfl (dd_Af.ret rfl ?_) (by omega)
            show dd_Rn (e + 16) m_X11_odds (51, [.ref 148, .int a1, .int a2, .int 10000, .null, .null], [.int 1], sM Ln (dd_u I 148 (upd (I 148) 0 0)) L c s) _
            exact dd_Rn.go 6 (cf' := (72, [.ref 148, .int a1, .int a2, .int 10000, .int 1, .int 0], [], sM Ln (dd_u I 148 (upd (I 148) 0 0)) L c s)) rfl h (by omega)
          · have h := h.2 hc
            refine dd_Rn.retK 1 (pc := 15) (ls := [.ref 148, .int a1]) (st := [.int 0]) (M := sM Ln (dd_u I 148 (upd (I 148) 0 0)) L c s) (o := (none, .int 0, sM Ln (dd_u I 148 (upd (I 148) 0 0)) L c s)) rfl rfl (dd_Af.ret rfl ?_) (by omega)
            show dd_Rn (e + 16) m_X11_odds (51, [.ref 148, .int a1, .int a2, .int 10000, .null, .null], [.int 0], sM Ln (dd_u I 148 (upd (I 148) 0 0)) L c s) _
            refine dd_Rn.cI 3 (pc := 56) (ls := [.ref 148, .int a1, .int a2, .int 10000, .null, .null]) (st := [.int a1, .ref 148]) (x := m_X11_hears) (as := [.ref 148, .int a1]) (rest := []) rfl rfl rfl rfl h ?_
            intro x1 I1 L1 h
            show dd_Rn (e + 16) m_X11_odds (59, [.ref 148, .int a1, .int a2, .int 10000, .null, .null], [.int x1], sM Ln I1 L1 c s) _
            refine dd_Rn.ite 0 (c := x1 = 0) (A := (66, [.ref 148, .int a1, .int a2, .int 10000, .null, .null], [], sM Ln I1 L1 c s)) (B := (62, [.ref 148, .int a1, .int a2, .int 10000, .null, .null], [], sM Ln I1 L1 c s)) rfl (fun hc => ?_) (fun hc => ?_) (by omega)
            · have h := h.1 hc
              exact dd_Rn.go 4 (cf' := (72, [.ref 148, .int a1, .int a2, .int 10000, .int 0, .int 0], [], sM Ln I1 L1 c s)) rfl h (by omega)
            · have h := h.2 hc
              exact dd_Rn.go 5 (cf' := (72, [.ref 148, .int a1, .int a2, .int 10000, .int 1, .int 0], [], sM Ln I1 L1 c s)) rfl h (by omega)

theorem w_X11_odds_72 {Ln d c s : Nat} {I : Nat → Nat → Int32} {L : Nat → Nat → Int64} {Q : dd_O → Prop} {a1 a2 a3 a4 a5 : Int32} (hd : 28 ≤ d) (h : ((a2 ≤ a5 → Q (none, .int a3, sM Ln I L c s)) ∧ (¬ (a2 ≤ a5) → ((a4 = 0 → dd_Rn d m_X11_odds (72, [.ref 148, .int a1, .int a2, .int ((a3 * ((100 : Int32) - (I 149 6))) / 100), .int a4, .int (a5 + 1)], [], sM Ln I L c s) Q) ∧ (¬ (a4 = 0) → Q (none, .int a3, sM Ln I L c s)))))) : dd_Rn d m_X11_odds (72, [.ref 148, .int a1, .int a2, .int a3, .int a4, .int a5], [], sM Ln I L c s) Q := by
  obtain ⟨e, rfl⟩ : ∃ e, d = e + 16 := ⟨d - 16, by omega⟩
  refine dd_Rn.ite 2 (c := a2 ≤ a5) (A := (105, [.ref 148, .int a1, .int a2, .int a3, .int a4, .int a5], [], sM Ln I L c s)) (B := (78, [.ref 148, .int a1, .int a2, .int a3, .int a4, .int a5], [], sM Ln I L c s)) rfl (fun hc => ?_) (fun hc => ?_) (by omega)
  · have h := h.1 hc
    exact dd_Rn.retK 1 (pc := 106) (ls := [.ref 148, .int a1, .int a2, .int a3, .int a4, .int a5]) (st := [.int a3]) (M := sM Ln I L c s) (o := (none, .int a3, sM Ln I L c s)) rfl rfl h (by omega)
  · have h := h.2 hc
    refine dd_Rn.ite 1 (c := a4 = 0) (A := (83, [.ref 148, .int a1, .int a2, .int a3, .int a4, .int a5], [], sM Ln I L c s)) (B := (105, [.ref 148, .int a1, .int a2, .int a3, .int a4, .int a5], [], sM Ln I L c s)) rfl (fun hc => ?_) (fun hc => ?_) (by omega)
    · have h := h.1 hc
      exact dd_Rn.go 13 (cf' := (72, [.ref 148, .int a1, .int a2, .int ((a3 * ((100 : Int32) - (I 149 6))) / 100), .int a4, .int (a5 + 1)], [], sM Ln I L c s)) rfl h (by omega)
    · have h := h.2 hc
      exact dd_Rn.retK 1 (pc := 106) (ls := [.ref 148, .int a1, .int a2, .int a3, .int a4, .int a5]) (st := [.int a3]) (M := sM Ln I L c s) (o := (none, .int a3, sM Ln I L c s)) rfl rfl h (by omega)

theorem w_X11_twins_0 {Ln d c s : Nat} {I : Nat → Nat → Int32} {L : Nat → Nat → Int64} {Q : dd_O → Prop} (hd : 28 ≤ d) (h : dd_Rn d m_X11_twins (9, [.ref 148, .int 0, .int 0, .null], [], sM Ln (dd_u I 148 (upd (I 148) 0 0)) L c s) Q) : dd_Ev d m_X11_twins [.ref 148] (sM Ln I L c s) Q := by
  obtain ⟨e, rfl⟩ : ∃ e, d = e + 16 := ⟨d - 16, by omega⟩
  show dd_Rn (e + 16) m_X11_twins (0, [.ref 148, .null, .null, .null], [], sM Ln I L c s) Q
  exact dd_Rn.go 7 (cf' := (9, [.ref 148, .int 0, .int 0, .null], [], sM Ln (dd_u I 148 (upd (I 148) 0 0)) L c s)) rfl h (by omega)

theorem w_X11_twins_9 {Ln d c s : Nat} {I : Nat → Nat → Int32} {L : Nat → Nat → Int64} {Q : dd_O → Prop} {a1 a2 : Int32} {a3 : Value} (hd : 28 ≤ d) (h : ((I 149 1 ≤ a2 → Q (none, .int a1, sM Ln I L c s)) ∧ (¬ (I 149 1 ≤ a2) → dd_Rn d m_X11_twins (19, [.ref 148, .int a1, .int a2, .int 0], [], sM Ln I L c s) Q))) : dd_Rn d m_X11_twins (9, [.ref 148, .int a1, .int a2, a3], [], sM Ln I L c s) Q := by
  obtain ⟨e, rfl⟩ : ∃ e, d = e + 16 := ⟨d - 16, by omega⟩
  refine dd_Rn.sub 2 (pc := 11) (ls := [.ref 148, .int a1, .int a2, a3]) (st := [.ref 148, .int a2]) (M := sM Ln I L c s) (x := m_X11_boys) (as := [.ref 148]) (rest := [.int a2]) rfl rfl rfl rfl ?_
  show dd_Rn (e + 15) m_X11_boys (0, [.ref 148], [], sM Ln I L c s) _
  refine dd_Rn.retK 4 (pc := 6) (ls := [.ref 148]) (st := [.int (I 149 1)]) (M := sM Ln I L c s) (o := (none, .int (I 149 1), sM Ln I L c s)) rfl rfl (dd_Af.ret rfl ?_) (by omega)
  show dd_Rn (e + 16) m_X11_twins (14, [.ref 148, .int a1, .int a2, a3], [.int (I 149 1), .int a2], sM Ln I L c s) _
  refine dd_Rn.ite 0 (c := I 149 1 ≤ a2) (A := (74, [.ref 148, .int a1, .int a2, a3], [], sM Ln I L c s)) (B := (17, [.ref 148, .int a1, .int a2, a3], [], sM Ln I L c s)) rfl (fun hc => ?_) (fun hc => ?_) (by omega)
  · have h := h.1 hc
    exact dd_Rn.retK 1 (pc := 75) (ls := [.ref 148, .int a1, .int a2, a3]) (st := [.int a1]) (M := sM Ln I L c s) (o := (none, .int a1, sM Ln I L c s)) rfl rfl h (by omega)
  · have h := h.2 hc
    exact dd_Rn.go 2 (cf' := (19, [.ref 148, .int a1, .int a2, .int 0], [], sM Ln I L c s)) rfl h (by omega)

theorem w_X11_twins_19 {Ln d c s : Nat} {I : Nat → Nat → Int32} {L : Nat → Nat → Int64} {Q : dd_O → Prop} {a1 a2 a3 : Int32} (hd : 28 ≤ d) (h : ((a2 ≤ a3 → dd_Rn d m_X11_twins (9, [.ref 148, .int a1, .int (a2 + 1), .int a3], [], sM Ln I L c s) Q) ∧ (¬ (a2 ≤ a3) → ((0 ≤ ((187 : Int32) + ((5 : Int32) * a2)) + 1 ∧ tn (((187 : Int32) + ((5 : Int32) * a2)) + 1) < 2220) ∧ ((0 ≤ ((187 : Int32) + ((5 : Int32) * a3)) + 1 ∧ tn (((187 : Int32) + ((5 : Int32) * a3)) + 1) < 2220) ∧ ((I 149 (tn (((187 : Int32) + ((5 : Int32) * a2)) + 1)) = I 149 (tn (((187 : Int32) + ((5 : Int32) * a3)) + 1)) → ((0 ≤ ((187 : Int32) + ((5 : Int32) * a2)) + 2 ∧ tn (((187 : Int32) + ((5 : Int32) * a2)) + 2) < 2220) ∧ ((0 ≤ ((187 : Int32) + ((5 : Int32) * a3)) + 2 ∧ tn (((187 : Int32) + ((5 : Int32) * a3)) + 2) < 2220) ∧ ((I 149 (tn (((187 : Int32) + ((5 : Int32) * a2)) + 2)) = I 149 (tn (((187 : Int32) + ((5 : Int32) * a3)) + 2)) → dd_Rn d m_X11_twins (19, [.ref 148, .int (a1 + 1), .int a2, .int (a3 + 1)], [], sM Ln I L c s) Q) ∧ (¬ (I 149 (tn (((187 : Int32) + ((5 : Int32) * a2)) + 2)) = I 149 (tn (((187 : Int32) + ((5 : Int32) * a3)) + 2))) → dd_Rn d m_X11_twins (19, [.ref 148, .int (a1 + 0), .int a2, .int (a3 + 1)], [], sM Ln I L c s) Q))))) ∧ (¬ (I 149 (tn (((187 : Int32) + ((5 : Int32) * a2)) + 1)) = I 149 (tn (((187 : Int32) + ((5 : Int32) * a3)) + 1))) → dd_Rn d m_X11_twins (19, [.ref 148, .int (a1 + 0), .int a2, .int (a3 + 1)], [], sM Ln I L c s) Q))))))) : dd_Rn d m_X11_twins (19, [.ref 148, .int a1, .int a2, .int a3], [], sM Ln I L c s) Q := by
  obtain ⟨e, rfl⟩ : ∃ e, d = e + 16 := ⟨d - 16, by omega⟩
  refine dd_Rn.ite 2 (c := a2 ≤ a3) (A := (68, [.ref 148, .int a1, .int a2, .int a3], [], sM Ln I L c s)) (B := (24, [.ref 148, .int a1, .int a2, .int a3], [], sM Ln I L c s)) rfl (fun hc => ?_) (fun hc => ?_) (by omega)
  · have h := h.1 hc
    exact dd_Rn.go 2 (cf' := (9, [.ref 148, .int a1, .int (a2 + 1), .int a3], [], sM Ln I L c s)) rfl h (by omega)
  · have h := h.2 hc
    refine dd_Rn.sub 4 (pc := 28) (ls := [.ref 148, .int a1, .int a2, .int a3]) (st := [.int 1, .int a2, .ref 148, .int a1]) (M := sM Ln I L c s) (x := m_X11_of) (as := [.ref 148, .int a2, .int 1]) (rest := [.int a1]) rfl rfl rfl rfl ?_
    show dd_Rn (e + 15) m_X11_of (0, [.ref 148, .int a2, .int 1], [], sM Ln I L c s) _
    refine dd_Rn.sub 4 (pc := 6) (ls := [.ref 148, .int a2, .int 1]) (st := [.int 1, .int a2, .ref 149]) (M := sM Ln I L c s) (x := m_X11_at) (as := [.int a2, .int 1]) (rest := [.ref 149]) rfl rfl rfl rfl ?_
    show dd_Rn (e + 14) m_X11_at (0, [.int a2, .int 1], [], sM Ln I L c s) _
    refine dd_Rn.retK 7 (pc := 9) (ls := [.int a2, .int 1]) (st := [.int (((187 : Int32) + ((5 : Int32) * a2)) + 1)]) (M := sM Ln I L c s) (o := (none, .int (((187 : Int32) + ((5 : Int32) * a2)) + 1), sM Ln I L c s)) rfl rfl (dd_Af.ret rfl ?_) (by omega)
    show dd_Rn (e + 15) m_X11_of (9, [.ref 148, .int a2, .int 1], [.int (((187 : Int32) + ((5 : Int32) * a2)) + 1), .ref 149], sM Ln I L c s) _
    obtain ⟨hc, h⟩ := h
    refine dd_Rn.ci (fun j0 => (9, [.ref 148, .int a2, .int 1], [.int j0, .ref 149], sM Ln I L c s)) (fun j0 => (10, [.ref 148, .int a2, .int 1], [.int (I 149 (tn j0))], sM Ln I L c s)) (fun j0 => 0 ≤ j0 ∧ tn j0 < 2220) (((187 : Int32) + ((5 : Int32) * a2)) + 1) (fun j0 hc h => dd_Rn.chk 0 (c := 0 ≤ j0 ∧ tn j0 < 2220) (A := (10, [.ref 148, .int a2, .int 1], [.int (I 149 (tn j0))], sM Ln I L c s)) rfl hc h (by omega)) hc ?_
    refine dd_Rn.se (cf := (10, [.ref 148, .int a2, .int 1], [.int (I 149 (tn (((187 : Int32) + ((5 : Int32) * a2)) + 1)))], sM Ln I L c s)) ?_
    refine dd_Rn.retK 0 (pc := 10) (ls := [.ref 148, .int a2, .int 1]) (st := [.int (I 149 (tn (((187 : Int32) + ((5 : Int32) * a2)) + 1)))]) (M := sM Ln I L c s) (o := (none, .int (I 149 (tn (((187 : Int32) + ((5 : Int32) * a2)) + 1))), sM Ln I L c s)) rfl rfl (dd_Af.ret rfl ?_) (by omega)
    show dd_Rn (e + 16) m_X11_twins (31, [.ref 148, .int a1, .int a2, .int a3], [.int (I 149 (tn (((187 : Int32) + ((5 : Int32) * a2)) + 1))), .int a1], sM Ln I L c s) _
    refine dd_Rn.sub 3 (pc := 34) (ls := [.ref 148, .int a1, .int a2, .int a3]) (st := [.int 1, .int a3, .ref 148, .int (I 149 (tn (((187 : Int32) + ((5 : Int32) * a2)) + 1))), .int a1]) (M := sM Ln I L c s) (x := m_X11_of) (as := [.ref 148, .int a3, .int 1]) (rest := [.int (I 149 (tn (((187 : Int32) + ((5 : Int32) * a2)) + 1))), .int a1]) rfl rfl rfl rfl ?_
    show dd_Rn (e + 15) m_X11_of (0, [.ref 148, .int a3, .int 1], [], sM Ln I L c s) _
    refine dd_Rn.sub 4 (pc := 6) (ls := [.ref 148, .int a3, .int 1]) (st := [.int 1, .int a3, .ref 149]) (M := sM Ln I L c s) (x := m_X11_at) (as := [.int a3, .int 1]) (rest := [.ref 149]) rfl rfl rfl rfl ?_
    show dd_Rn (e + 14) m_X11_at (0, [.int a3, .int 1], [], sM Ln I L c s) _
    refine dd_Rn.retK 7 (pc := 9) (ls := [.int a3, .int 1]) (st := [.int (((187 : Int32) + ((5 : Int32) * a3)) + 1)]) (M := sM Ln I L c s) (o := (none, .int (((187 : Int32) + ((5 : Int32) * a3)) + 1), sM Ln I L c s)) rfl rfl (dd_Af.ret rfl ?_) (by omega)
    show dd_Rn (e + 15) m_X11_of (9, [.ref 148, .int a3, .int 1], [.int (((187 : Int32) + ((5 : Int32) * a3)) + 1), .ref 149], sM Ln I L c s) _
    obtain ⟨hc, h⟩ := h
    refine dd_Rn.ci (fun j0 => (9, [.ref 148, .int a3, .int 1], [.int j0, .ref 149], sM Ln I L c s)) (fun j0 => (10, [.ref 148, .int a3, .int 1], [.int (I 149 (tn j0))], sM Ln I L c s)) (fun j0 => 0 ≤ j0 ∧ tn j0 < 2220) (((187 : Int32) + ((5 : Int32) * a3)) + 1) (fun j0 hc h => dd_Rn.chk 0 (c := 0 ≤ j0 ∧ tn j0 < 2220) (A := (10, [.ref 148, .int a3, .int 1], [.int (I 149 (tn j0))], sM Ln I L c s)) rfl hc h (by omega)) hc ?_
    refine dd_Rn.se (cf := (10, [.ref 148, .int a3, .int 1], [.int (I 149 (tn (((187 : Int32) + ((5 : Int32) * a3)) + 1)))], sM Ln I L c s)) ?_
    refine dd_Rn.retK 0 (pc := 10) (ls := [.ref 148, .int a3, .int 1]) (st := [.int (I 149 (tn (((187 : Int32) + ((5 : Int32) * a3)) + 1)))]) (M := sM Ln I L c s) (o := (none, .int (I 149 (tn (((187 : Int32) + ((5 : Int32) * a3)) + 1))), sM Ln I L c s)) rfl rfl (dd_Af.ret rfl ?_) (by omega)
    show dd_Rn (e + 16) m_X11_twins (37, [.ref 148, .int a1, .int a2, .int a3], [.int (I 149 (tn (((187 : Int32) + ((5 : Int32) * a3)) + 1))), .int (I 149 (tn (((187 : Int32) + ((5 : Int32) * a2)) + 1))), .int a1], sM Ln I L c s) _
    refine dd_Rn.ite 0 (c := I 149 (tn (((187 : Int32) + ((5 : Int32) * a2)) + 1)) = I 149 (tn (((187 : Int32) + ((5 : Int32) * a3)) + 1))) (A := (40, [.ref 148, .int a1, .int a2, .int a3], [.int a1], sM Ln I L c s)) (B := (59, [.ref 148, .int a1, .int a2, .int a3], [.int a1], sM Ln I L c s)) rfl (fun hc => ?_) (fun hc => ?_) (by omega)
    · have h := h.1 hc
      refine dd_Rn.sub 3 (pc := 43) (ls := [.ref 148, .int a1, .int a2, .int a3]) (st := [.int 2, .int a2, .ref 148, .int a1]) (M := sM Ln I L c s) (x := m_X11_of) (as := [.ref 148, .int a2, .int 2]) (rest := [.int a1]) rfl rfl rfl rfl ?_
      show dd_Rn (e + 15) m_X11_of (0, [.ref 148, .int a2, .int 2], [], sM Ln I L c s) _
      refine dd_Rn.sub 4 (pc := 6) (ls := [.ref 148, .int a2, .int 2]) (st := [.int 2, .int a2, .ref 149]) (M := sM Ln I L c s) (x := m_X11_at) (as := [.int a2, .int 2]) (rest := [.ref 149]) rfl rfl rfl rfl ?_
      show dd_Rn (e + 14) m_X11_at (0, [.int a2, .int 2], [], sM Ln I L c s) _
      refine dd_Rn.retK 7 (pc := 9) (ls := [.int a2, .int 2]) (st := [.int (((187 : Int32) + ((5 : Int32) * a2)) + 2)]) (M := sM Ln I L c s) (o := (none, .int (((187 : Int32) + ((5 : Int32) * a2)) + 2), sM Ln I L c s)) rfl rfl (dd_Af.ret rfl ?_) (by omega)
      show dd_Rn (e + 15) m_X11_of (9, [.ref 148, .int a2, .int 2], [.int (((187 : Int32) + ((5 : Int32) * a2)) + 2), .ref 149], sM Ln I L c s) _
      obtain ⟨hc, h⟩ := h
      refine dd_Rn.ci (fun j0 => (9, [.ref 148, .int a2, .int 2], [.int j0, .ref 149], sM Ln I L c s)) (fun j0 => (10, [.ref 148, .int a2, .int 2], [.int (I 149 (tn j0))], sM Ln I L c s)) (fun j0 => 0 ≤ j0 ∧ tn j0 < 2220) (((187 : Int32) + ((5 : Int32) * a2)) + 2) (fun j0 hc h => dd_Rn.chk 0 (c := 0 ≤ j0 ∧ tn j0 < 2220) (A := (10, [.ref 148, .int a2, .int 2], [.int (I 149 (tn j0))], sM Ln I L c s)) rfl hc h (by omega)) hc ?_
      refine dd_Rn.se (cf := (10, [.ref 148, .int a2, .int 2], [.int (I 149 (tn (((187 : Int32) + ((5 : Int32) * a2)) + 2)))], sM Ln I L c s)) ?_
      refine dd_Rn.retK 0 (pc := 10) (ls := [.ref 148, .int a2, .int 2]) (st := [.int (I 149 (tn (((187 : Int32) + ((5 : Int32) * a2)) + 2)))]) (M := sM Ln I L c s) (o := (none, .int (I 149 (tn (((187 : Int32) + ((5 : Int32) * a2)) + 2))), sM Ln I L c s)) rfl rfl (dd_Af.ret rfl ?_) (by omega)
      show dd_Rn (e + 16) m_X11_twins (46, [.ref 148, .int a1, .int a2, .int a3], [.int (I 149 (tn (((187 : Int32) + ((5 : Int32) * a2)) + 2))), .int a1], sM Ln I L c s) _
      refine dd_Rn.sub 3 (pc := 49) (ls := [.ref 148, .int a1, .int a2, .int a3]) (st := [.int 2, .int a3, .ref 148, .int (I 149 (tn (((187 : Int32) + ((5 : Int32) * a2)) + 2))), .int a1]) (M := sM Ln I L c s) (x := m_X11_of) (as := [.ref 148, .int a3, .int 2]) (rest := [.int (I 149 (tn (((187 : Int32) + ((5 : Int32) * a2)) + 2))), .int a1]) rfl rfl rfl rfl ?_
      show dd_Rn (e + 15) m_X11_of (0, [.ref 148, .int a3, .int 2], [], sM Ln I L c s) _
      refine dd_Rn.sub 4 (pc := 6) (ls := [.ref 148, .int a3, .int 2]) (st := [.int 2, .int a3, .ref 149]) (M := sM Ln I L c s) (x := m_X11_at) (as := [.int a3, .int 2]) (rest := [.ref 149]) rfl rfl rfl rfl ?_
      show dd_Rn (e + 14) m_X11_at (0, [.int a3, .int 2], [], sM Ln I L c s) _
      refine dd_Rn.retK 7 (pc := 9) (ls := [.int a3, .int 2]) (st := [.int (((187 : Int32) + ((5 : Int32) * a3)) + 2)]) (M := sM Ln I L c s) (o := (none, .int (((187 : Int32) + ((5 : Int32) * a3)) + 2), sM Ln I L c s)) rfl rfl (dd_Af.ret rfl ?_) (by omega)
      show dd_Rn (e + 15) m_X11_of (9, [.ref 148, .int a3, .int 2], [.int (((187 : Int32) + ((5 : Int32) * a3)) + 2), .ref 149], sM Ln I L c s) _
      obtain ⟨hc, h⟩ := h
      refine dd_Rn.ci (fun j0 => (9, [.ref 148, .int a3, .int 2], [.int j0, .ref 149], sM Ln I L c s)) (fun j0 => (10, [.ref 148, .int a3, .int 2], [.int (I 149 (tn j0))], sM Ln I L c s)) (fun j0 => 0 ≤ j0 ∧ tn j0 < 2220) (((187 : Int32) + ((5 : Int32) * a3)) + 2) (fun j0 hc h => dd_Rn.chk 0 (c := 0 ≤ j0 ∧ tn j0 < 2220) (A := (10, [.ref 148, .int a3, .int 2], [.int (I 149 (tn j0))], sM Ln I L c s)) rfl hc h (by omega)) hc ?_
      refine dd_Rn.se (cf := (10, [.ref 148, .int a3, .int 2], [.int (I 149 (tn (((187 : Int32) + ((5 : Int32) * a3)) + 2)))], sM Ln I L c s)) ?_
      refine dd_Rn.retK 0 (pc := 10) (ls := [.ref 148, .int a3, .int 2]) (st := [.int (I 149 (tn (((187 : Int32) + ((5 : Int32) * a3)) + 2)))]) (M := sM Ln I L c s) (o := (none, .int (I 149 (tn (((187 : Int32) + ((5 : Int32) * a3)) + 2))), sM Ln I L c s)) rfl rfl (dd_Af.ret rfl ?_) (by omega)
      show dd_Rn (e + 16) m_X11_twins (52, [.ref 148, .int a1, .int a2, .int a3], [.int (I 149 (tn (((187 : Int32) + ((5 : Int32) * a3)) + 2))), .int (I 149 (tn (((187 : Int32) + ((5 : Int32) * a2)) + 2))), .int a1], sM Ln I L c s) _
      refine dd_Rn.ite 0 (c := I 149 (tn (((187 : Int32) + ((5 : Int32) * a2)) + 2)) = I 149 (tn (((187 : Int32) + ((5 : Int32) * a3)) + 2))) (A := (55, [.ref 148, .int a1, .int a2, .int a3], [.int a1], sM Ln I L c s)) (B := (59, [.ref 148, .int a1, .int a2, .int a3], [.int a1], sM Ln I L c s)) rfl (fun hc => ?_) (fun hc => ?_) (by omega)
      · have h := h.1 hc
        exact dd_Rn.go 6 (cf' := (19, [.ref 148, .int (a1 + 1), .int a2, .int (a3 + 1)], [], sM Ln I L c s)) rfl h (by omega)
      · have h := h.2 hc
        exact dd_Rn.go 5 (cf' := (19, [.ref 148, .int (a1 + 0), .int a2, .int (a3 + 1)], [], sM Ln I L c s)) rfl h (by omega)
    · have h := h.2 hc
      exact dd_Rn.go 5 (cf' := (19, [.ref 148, .int (a1 + 0), .int a2, .int (a3 + 1)], [], sM Ln I L c s)) rfl h (by omega)

theorem w_X11_trial_0 {Ln d c s : Nat} {I : Nat → Nat → Int32} {L : Nat → Nat → Int64} {Q : dd_O → Prop} {a1 a2 : Int32} (hd : 28 ≤ d) (h : ((a1 < 0 → Q (none, .int 0, sM Ln (dd_u (dd_u I 148 (upd (I 148) 0 0)) 148 (upd (upd (I 148) 0 0) 0 1)) L c s)) ∧ (¬ (a1 < 0) → (((100 : Int32) < a1 → Q (none, .int 0, sM Ln (dd_u (dd_u I 148 (upd (I 148) 0 0)) 148 (upd (upd (I 148) 0 0) 0 1)) L c s)) ∧ (¬ ((100 : Int32) < a1) → dd_Ev (d - 1) m_X11_keepsAll [.ref 148] (sM Ln (dd_u I 148 (upd (I 148) 0 0)) L c s) (dd_RV Ln c s (fun I1 L1 => dd_Ev (d - 1) m_X11_goesOn [.ref 148, .int a1, .int 0] (sM Ln I1 L1 c s) (dd_RI Ln c s (fun x2 I2 L2 => ((a2 = 0 → dd_Ev (d - 1) m_X11_inOnes [.ref 148] (sM Ln I2 L2 c s) (dd_RI Ln c s (fun x3 I3 L3 => dd_Ev (d - 1) m_X11_bringsBack [.ref 148] (sM Ln I3 L3 c s) (dd_RV Ln c s (fun I4 L4 => Q (none, .int x3, sM Ln I4 L4 c s)))))) ∧ (¬ (a2 = 0) → dd_Ev (d - 1) m_X11_badOfAll [.ref 148] (sM Ln I2 L2 c s) (dd_RI Ln c s (fun x5 I5 L5 => dd_Ev (d - 1) m_X11_bringsBack [.ref 148] (sM Ln I5 L5 c s) (dd_RV Ln c s (fun I6 L6 => Q (none, .int x5, sM Ln I6 L6 c s)))))))))))))))) : dd_Ev d m_X11_trial [.ref 148, .int a1, .int a2] (sM Ln I L c s) Q := by
  obtain ⟨e, rfl⟩ : ∃ e, d = e + 16 := ⟨d - 16, by omega⟩
  show dd_Rn (e + 16) m_X11_trial (0, [.ref 148, .int a1, .int a2, .null], [], sM Ln I L c s) Q
  refine dd_Rn.sub 5 (pc := 7) (ls := [.ref 148, .int a1, .int a2, .null]) (st := [.int a1, .ref 148]) (M := sM Ln (dd_u I 148 (upd (I 148) 0 0)) L c s) (x := m_X11_noAhead) (as := [.int a1]) (rest := [.ref 148]) rfl rfl rfl rfl ?_
  show dd_Rn (e + 15) m_X11_noAhead (0, [.int a1], [], sM Ln (dd_u I 148 (upd (I 148) 0 0)) L c s) _
  refine dd_Rn.sub 3 (pc := 4) (ls := [.int a1]) (st := [.int 100, .int 0, .int a1]) (M := sM Ln (dd_u I 148 (upd (I 148) 0 0)) L c s) (x := m_X11_in) (as := [.int a1, .int 0, .int 100]) (rest := []) rfl rfl rfl rfl ?_
  show dd_Rn (e + 14) m_X11_in (0, [.int a1, .int 0, .int 100], [], sM Ln (dd_u I 148 (upd (I 148) 0 0)) L c s) _
  refine dd_Rn.ite 2 (c := a1 < 0) (A := (14, [.int a1, .int 0, .int 100], [], sM Ln (dd_u I 148 (upd (I 148) 0 0)) L c s)) (B := (5, [.int a1, .int 0, .int 100], [], sM Ln (dd_u I 148 (upd (I 148) 0 0)) L c s)) rfl (fun hc => ?_) (fun hc => ?_) (by omega)
  · have h := h.1 hc
    refine dd_Rn.retK 1 (pc := 15) (ls := [.int a1, .int 0, .int 100]) (st := [.int 0]) (M := sM Ln (dd_u I 148 (upd (I 148) 0 0)) L c s) (o := (none, .int 0, sM Ln (dd_u I 148 (upd (I 148) 0 0)) L c s)) rfl rfl (dd_Af.ret rfl ?_) (by omega)
    show dd_Rn (e + 15) m_X11_noAhead (7, [.int a1], [.int 0], sM Ln (dd_u I 148 (upd (I 148) 0 0)) L c s) _
    refine dd_Rn.retK 3 (pc := 15) (ls := [.int a1]) (st := [.int 1]) (M := sM Ln (dd_u I 148 (upd (I 148) 0 0)) L c s) (o := (none, .int 1, sM Ln (dd_u I 148 (upd (I 148) 0 0)) L c s)) rfl rfl (dd_Af.ret rfl ?_) (by omega)
    show dd_Rn (e + 16) m_X11_trial (10, [.ref 148, .int a1, .int a2, .null], [.int 1, .ref 148], sM Ln (dd_u I 148 (upd (I 148) 0 0)) L c s) _
    refine dd_Rn.sub 1 (pc := 11) (ls := [.ref 148, .int a1, .int a2, .null]) (st := [.int 1, .int 1, .ref 148]) (M := sM Ln (dd_u I 148 (upd (I 148) 0 0)) L c s) (x := m_X11_throwsIf) (as := [.ref 148, .int 1, .int 1]) (rest := []) rfl rfl rfl rfl ?_
    show dd_Rn (e + 15) m_X11_throwsIf (0, [.ref 148, .int 1, .int 1], [], sM Ln (dd_u I 148 (upd (I 148) 0 0)) L c s) _
    refine dd_Rn.retK 6 (pc := 10) (ls := [.ref 148, .int 1, .int 1]) (st := [.int 1]) (M := sM Ln (dd_u (dd_u I 148 (upd (I 148) 0 0)) 148 (upd (upd (I 148) 0 0) 0 1)) L c s) (o := (none, .int 1, sM Ln (dd_u (dd_u I 148 (upd (I 148) 0 0)) 148 (upd (upd (I 148) 0 0) 0 1)) L c s)) rfl rfl (dd_Af.ret rfl ?_) (by omega)
    show dd_Rn (e + 16) m_X11_trial (14, [.ref 148, .int a1, .int a2, .null], [.int 1], sM Ln (dd_u (dd_u I 148 (upd (I 148) 0 0)) 148 (upd (upd (I 148) 0 0) 0 1)) L c s) _
    exact dd_Rn.retK 2 (pc := 18) (ls := [.ref 148, .int a1, .int a2, .null]) (st := [.int 0]) (M := sM Ln (dd_u (dd_u I 148 (upd (I 148) 0 0)) 148 (upd (upd (I 148) 0 0) 0 1)) L c s) (o := (none, .int 0, sM Ln (dd_u (dd_u I 148 (upd (I 148) 0 0)) 148 (upd (upd (I 148) 0 0) 0 1)) L c s)) rfl rfl h (by omega)
  · have h := h.2 hc
    refine dd_Rn.ite 2 (c := (100 : Int32) < a1) (A := (14, [.int a1, .int 0, .int 100], [], sM Ln (dd_u I 148 (upd (I 148) 0 0)) L c s)) (B := (10, [.int a1, .int 0, .int 100], [], sM Ln (dd_u I 148 (upd (I 148) 0 0)) L c s)) rfl (fun hc => ?_) (fun hc => ?_) (by omega)
    · have h := h.1 hc
      refine dd_Rn.retK 1 (pc := 15) (ls := [.int a1, .int 0, .int 100]) (st := [.int 0]) (M := sM Ln (dd_u I 148 (upd (I 148) 0 0)) L c s) (o := (none, .int 0, sM Ln (dd_u I 148 (upd (I 148) 0 0)) L c s)) rfl rfl (dd_Af.ret rfl ?_) (by omega)
      show dd_Rn (e + 15) m_X11_noAhead (7, [.int a1], [.int 0], sM Ln (dd_u I 148 (upd (I 148) 0 0)) L c s) _
      refine dd_Rn.retK 3 (pc := 15) (ls := [.int a1]) (st := [.int 1]) (M := sM Ln (dd_u I 148 (upd (I 148) 0 0)) L c s) (o := (none, .int 1, sM Ln (dd_u I 148 (upd (I 148) 0 0)) L c s)) rfl rfl (dd_Af.ret rfl ?_) (by omega)
      show dd_Rn (e + 16) m_X11_trial (10, [.ref 148, .int a1, .int a2, .null], [.int 1, .ref 148], sM Ln (dd_u I 148 (upd (I 148) 0 0)) L c s) _
      refine dd_Rn.sub 1 (pc := 11) (ls := [.ref 148, .int a1, .int a2, .null]) (st := [.int 1, .int 1, .ref 148]) (M := sM Ln (dd_u I 148 (upd (I 148) 0 0)) L c s) (x := m_X11_throwsIf) (as := [.ref 148, .int 1, .int 1]) (rest := []) rfl rfl rfl rfl ?_
      show dd_Rn (e + 15) m_X11_throwsIf (0, [.ref 148, .int 1, .int 1], [], sM Ln (dd_u I 148 (upd (I 148) 0 0)) L c s) _
      refine dd_Rn.retK 6 (pc := 10) (ls := [.ref 148, .int 1, .int 1]) (st := [.int 1]) (M := sM Ln (dd_u (dd_u I 148 (upd (I 148) 0 0)) 148 (upd (upd (I 148) 0 0) 0 1)) L c s) (o := (none, .int 1, sM Ln (dd_u (dd_u I 148 (upd (I 148) 0 0)) 148 (upd (upd (I 148) 0 0) 0 1)) L c s)) rfl rfl (dd_Af.ret rfl ?_) (by omega)
      show dd_Rn (e + 16) m_X11_trial (14, [.ref 148, .int a1, .int a2, .null], [.int 1], sM Ln (dd_u (dd_u I 148 (upd (I 148) 0 0)) 148 (upd (upd (I 148) 0 0) 0 1)) L c s) _
      exact dd_Rn.retK 2 (pc := 18) (ls := [.ref 148, .int a1, .int a2, .null]) (st := [.int 0]) (M := sM Ln (dd_u (dd_u I 148 (upd (I 148) 0 0)) 148 (upd (upd (I 148) 0 0) 0 1)) L c s) (o := (none, .int 0, sM Ln (dd_u (dd_u I 148 (upd (I 148) 0 0)) 148 (upd (upd (I 148) 0 0) 0 1)) L c s)) rfl rfl h (by omega)
    · have h := h.2 hc
      refine dd_Rn.retK 2 (pc := 15) (ls := [.int a1, .int 0, .int 100]) (st := [.int 1]) (M := sM Ln (dd_u I 148 (upd (I 148) 0 0)) L c s) (o := (none, .int 1, sM Ln (dd_u I 148 (upd (I 148) 0 0)) L c s)) rfl rfl (dd_Af.ret rfl ?_) (by omega)
      show dd_Rn (e + 15) m_X11_noAhead (7, [.int a1], [.int 1], sM Ln (dd_u I 148 (upd (I 148) 0 0)) L c s) _
      refine dd_Rn.retK 2 (pc := 15) (ls := [.int a1]) (st := [.int 0]) (M := sM Ln (dd_u I 148 (upd (I 148) 0 0)) L c s) (o := (none, .int 0, sM Ln (dd_u I 148 (upd (I 148) 0 0)) L c s)) rfl rfl (dd_Af.ret rfl ?_) (by omega)
      show dd_Rn (e + 16) m_X11_trial (10, [.ref 148, .int a1, .int a2, .null], [.int 0, .ref 148], sM Ln (dd_u I 148 (upd (I 148) 0 0)) L c s) _
      refine dd_Rn.sub 1 (pc := 11) (ls := [.ref 148, .int a1, .int a2, .null]) (st := [.int 1, .int 0, .ref 148]) (M := sM Ln (dd_u I 148 (upd (I 148) 0 0)) L c s) (x := m_X11_throwsIf) (as := [.ref 148, .int 0, .int 1]) (rest := []) rfl rfl rfl rfl ?_
      show dd_Rn (e + 15) m_X11_throwsIf (0, [.ref 148, .int 0, .int 1], [], sM Ln (dd_u I 148 (upd (I 148) 0 0)) L c s) _
      refine dd_Rn.retK 3 (pc := 10) (ls := [.ref 148, .int 0, .int 1]) (st := [.int 0]) (M := sM Ln (dd_u I 148 (upd (I 148) 0 0)) L c s) (o := (none, .int 0, sM Ln (dd_u I 148 (upd (I 148) 0 0)) L c s)) rfl rfl (dd_Af.ret rfl ?_) (by omega)
      show dd_Rn (e + 16) m_X11_trial (14, [.ref 148, .int a1, .int a2, .null], [.int 0], sM Ln (dd_u I 148 (upd (I 148) 0 0)) L c s) _
      refine dd_Rn.cV 2 (pc := 20) (ls := [.ref 148, .int a1, .int a2, .null]) (st := [.ref 148]) (x := m_X11_keepsAll) (as := [.ref 148]) (rest := []) rfl rfl rfl rfl h ?_
      intro I1 L1 h
      show dd_Rn (e + 16) m_X11_trial (23, [.ref 148, .int a1, .int a2, .null], [], sM Ln I1 L1 c s) _
      refine dd_Rn.cI 3 (pc := 26) (ls := [.ref 148, .int a1, .int a2, .null]) (st := [.int 0, .int a1, .ref 148]) (x := m_X11_goesOn) (as := [.ref 148, .int a1, .int 0]) (rest := []) rfl rfl rfl rfl h ?_
      intro x2 I2 L2 h
      show dd_Rn (e + 16) m_X11_trial (29, [.ref 148, .int a1, .int a2, .null], [.int x2], sM Ln I2 L2 c s) _
      refine dd_Rn.ite 2 (c := a2 = 0) (A := (41, [.ref 148, .int a1, .int a2, .null], [], sM Ln I2 L2 c s)) (B := (34, [.ref 148, .int a1, .int a2, .null], [], sM Ln I2 L2 c s)) rfl (fun hc => ?_) (fun hc => ?_) (by omega)
      · have h := h.1 hc
        refine dd_Rn.cI 1 (pc := 42) (ls := [.ref 148, .int a1, .int a2, .null]) (st := [.ref 148]) (x := m_X11_inOnes) (as := [.ref 148]) (rest := []) rfl rfl rfl rfl h ?_
        intro x3 I3 L3 h
        show dd_Rn (e + 16) m_X11_trial (45, [.ref 148, .int a1, .int a2, .null], [.int x3], sM Ln I3 L3 c s) _
        refine dd_Rn.cV 2 (pc := 47) (ls := [.ref 148, .int a1, .int a2, .int x3]) (st := [.ref 148]) (x := m_X11_bringsBack) (as := [.ref 148]) (rest := []) rfl rfl rfl rfl h ?_
        intro I4 L4 h
        show dd_Rn (e + 16) m_X11_trial (50, [.ref 148, .int a1, .int a2, .int x3], [], sM Ln I4 L4 c s) _
        exact dd_Rn.retK 1 (pc := 51) (ls := [.ref 148, .int a1, .int a2, .int x3]) (st := [.int x3]) (M := sM Ln I4 L4 c s) (o := (none, .int x3, sM Ln I4 L4 c s)) rfl rfl h (by omega)
      · have h := h.2 hc
        refine dd_Rn.cI 1 (pc := 35) (ls := [.ref 148, .int a1, .int a2, .null]) (st := [.ref 148]) (x := m_X11_badOfAll) (as := [.ref 148]) (rest := []) rfl rfl rfl rfl h ?_
        intro x5 I5 L5 h
        show dd_Rn (e + 16) m_X11_trial (38, [.ref 148, .int a1, .int a2, .null], [.int x5], sM Ln I5 L5 c s) _
        refine dd_Rn.cV 3 (pc := 47) (ls := [.ref 148, .int a1, .int a2, .int x5]) (st := [.ref 148]) (x := m_X11_bringsBack) (as := [.ref 148]) (rest := []) rfl rfl rfl rfl h ?_
        intro I6 L6 h
        show dd_Rn (e + 16) m_X11_trial (50, [.ref 148, .int a1, .int a2, .int x5], [], sM Ln I6 L6 c s) _
        exact dd_Rn.retK 1 (pc := 51) (ls := [.ref 148, .int a1, .int a2, .int x5]) (st := [.int x5]) (M := sM Ln I6 L6 c s) (o := (none, .int x5, sM Ln I6 L6 c s)) rfl rfl h (by omega)

theorem w_X11_span_0 {Ln d c s : Nat} {I : Nat → Nat → Int32} {L : Nat → Nat → Int64} {Q : dd_O → Prop} {a1 a2 : Int32} (hd : 28 ≤ d) (h : ((a1 < 0 → Q (none, .int 0, sM Ln (dd_u (dd_u I 148 (upd (I 148) 0 0)) 148 (upd (upd (I 148) 0 0) 0 1)) L c s)) ∧ (¬ (a1 < 0) → (((100 : Int32) < a1 → Q (none, .int 0, sM Ln (dd_u (dd_u I 148 (upd (I 148) 0 0)) 148 (upd (upd (I 148) 0 0) 0 1)) L c s)) ∧ (¬ ((100 : Int32) < a1) → dd_Ev (d - 1) m_X11_keepsAll [.ref 148] (sM Ln (dd_u I 148 (upd (I 148) 0 0)) L c s) (dd_RV Ln c s (fun I1 L1 => dd_Rn d m_X11_span (28, [.ref 148, .int a1, .int a2, .int (-1), .int 1, .null], [], sM Ln I1 L1 c s) Q))))))) : dd_Ev d m_X11_span [.ref 148, .int a1, .int a2] (sM Ln I L c s) Q := by
  obtain ⟨e, rfl⟩ : ∃ e, d = e + 16 := ⟨d - 16, by omega⟩
  show dd_Rn (e + 16) m_X11_span (0, [.ref 148, .int a1, .int a2, .null, .null, .null], [], sM Ln I L c s) Q
  refine dd_Rn.sub 5 (pc := 7) (ls := [.ref 148, .int a1, .int a2, .null, .null, .null]) (st := [.int a1, .ref 148]) (M := sM Ln (dd_u I 148 (upd (I 148) 0 0)) L c s) (x := m_X11_noAhead) (as := [.int a1]) (rest := [.ref 148]) rfl rfl rfl rfl ?_
  show dd_Rn (e + 15) m_X11_noAhead (0, [.int a1], [], sM Ln (dd_u I 148 (upd (I 148) 0 0)) L c s) _
  refine dd_Rn.sub 3 (pc := 4) (ls := [.int a1]) (st := [.int 100, .int 0, .int a1]) (M := sM Ln (dd_u I 148 (upd (I 148) 0 0)) L c s) (x := m_X11_in) (as := [.int a1, .int 0, .int 100]) (rest := []) rfl rfl rfl rfl ?_
  show dd_Rn (e + 14) m_X11_in (0, [.int a1, .int 0, .int 100], [], sM Ln (dd_u I 148 (upd (I 148) 0 0)) L c s) _
  refine dd_Rn.ite 2 (c := a1 < 0) (A := (14, [.int a1, .int 0, .int 100], [], sM Ln (dd_u I 148 (upd (I 148) 0 0)) L c s)) (B := (5, [.int a1, .int 0, .int 100], [], sM Ln (dd_u I 148 (upd (I 148) 0 0)) L c s)) rfl (fun hc => ?_) (fun hc => ?_) (by omega)
  · have h := h.1 hc
    refine dd_Rn.retK 1 (pc := 15) (ls := [.int a1, .int 0, .int 100]) (st := [.int 0]) (M := sM Ln (dd_u I 148 (upd (I 148) 0 0)) L c s) (o := (none, .int 0, sM Ln (dd_u I 148 (upd (I 148) 0 0)) L c s)) rfl rfl (dd_Af.ret rfl ?_) (by omega)
    show dd_Rn (e + 15) m_X11_noAhead (7, [.int a1], [.int 0], sM Ln (dd_u I 148 (upd (I 148) 0 0)) L c s) _
    refine dd_Rn.retK 3 (pc := 15) (ls := [.int a1]) (st := [.int 1]) (M := sM Ln (dd_u I 148 (upd (I 148) 0 0)) L c s) (o := (none, .int 1, sM Ln (dd_u I 148 (upd (I 148) 0 0)) L c s)) rfl rfl (dd_Af.ret rfl ?_) (by omega)
    show dd_Rn (e + 16) m_X11_span (10, [.ref 148, .int a1, .int a2, .null, .null, .null], [.int 1, .ref 148], sM Ln (dd_u I 148 (upd (I 148) 0 0)) L c s) _
    refine dd_Rn.sub 1 (pc := 11) (ls := [.ref 148, .int a1, .int a2, .null, .null, .null]) (st := [.int 1, .int 1, .ref 148]) (M := sM Ln (dd_u I 148 (upd (I 148) 0 0)) L c s) (x := m_X11_throwsIf) (as := [.ref 148, .int 1, .int 1]) (rest := []) rfl rfl rfl rfl ?_
    show dd_Rn (e + 15) m_X11_throwsIf (0, [.ref 148, .int 1, .int 1], [], sM Ln (dd_u I 148 (upd (I 148) 0 0)) L c s) _
    refine dd_Rn.retK 6 (pc := 10) (ls := [.ref 148, .int 1, .int 1]) (st := [.int 1]) (M := sM Ln (dd_u (dd_u I 148 (upd (I 148) 0 0)) 148 (upd (upd (I 148) 0 0) 0 1)) L c s) (o := (none, .int 1, sM Ln (dd_u (dd_u I 148 (upd (I 148) 0 0)) 148 (upd (upd (I 148) 0 0) 0 1)) L c s)) rfl rfl (dd_Af.ret rfl ?_) (by omega)
    show dd_Rn (e + 16) m_X11_span (14, [.ref 148, .int a1, .int a2, .null, .null, .null], [.int 1], sM Ln (dd_u (dd_u I 148 (upd (I 148) 0 0)) 148 (upd (upd (I 148) 0 0) 0 1)) L c s) _
    exact dd_Rn.retK 2 (pc := 18) (ls := [.ref 148, .int a1, .int a2, .null, .null, .null]) (st := [.int 0]) (M := sM Ln (dd_u (dd_u I 148 (upd (I 148) 0 0)) 148 (upd (upd (I 148) 0 0) 0 1)) L c s) (o := (none, .int 0, sM Ln (dd_u (dd_u I 148 (upd (I 148) 0 0)) 148 (upd (upd (I 148) 0 0) 0 1)) L c s)) rfl rfl h (by omega)
  · have h := h.2 hc
    refine dd_Rn.ite 2 (c := (100 : Int32) < a1) (A := (14, [.int a1, .int 0, .int 100], [], sM Ln (dd_u I 148 (upd (I 148) 0 0)) L c s)) (B := (10, [.int a1, .int 0, .int 100], [], sM Ln (dd_u I 148 (upd (I 148) 0 0)) L c s)) rfl (fun hc => ?_) (fun hc => ?_) (by omega)
    · have h := h.1 hc
      refine dd_Rn.retK 1 (pc := 15) (ls := [.int a1, .int 0, .int 100]) (st := [.int 0]) (M := sM Ln (dd_u I 148 (upd (I 148) 0 0)) L c s) (o := (none, .int 0, sM Ln (dd_u I 148 (upd (I 148) 0 0)) L c s)) rfl rfl (dd_Af.ret rfl ?_) (by omega)
      show dd_Rn (e + 15) m_X11_noAhead (7, [.int a1], [.int 0], sM Ln (dd_u I 148 (upd (I 148) 0 0)) L c s) _
      refine dd_Rn.retK 3 (pc := 15) (ls := [.int a1]) (st := [.int 1]) (M := sM Ln (dd_u I 148 (upd (I 148) 0 0)) L c s) (o := (none, .int 1, sM Ln (dd_u I 148 (upd (I 148) 0 0)) L c s)) rfl rfl (dd_Af.ret rfl ?_) (by omega)
      show dd_Rn (e + 16) m_X11_span (10, [.ref 148, .int a1, .int a2, .null, .null, .null], [.int 1, .ref 148], sM Ln (dd_u I 148 (upd (I 148) 0 0)) L c s) _
      refine dd_Rn.sub 1 (pc := 11) (ls := [.ref 148, .int a1, .int a2, .null, .null, .null]) (st := [.int 1, .int 1, .ref 148]) (M := sM Ln (dd_u I 148 (upd (I 148) 0 0)) L c s) (x := m_X11_throwsIf) (as := [.ref 148, .int 1, .int 1]) (rest := []) rfl rfl rfl rfl ?_
      show dd_Rn (e + 15) m_X11_throwsIf (0, [.ref 148, .int 1, .int 1], [], sM Ln (dd_u I 148 (upd (I 148) 0 0)) L c s) _
      refine dd_Rn.retK 6 (pc := 10) (ls := [.ref 148, .int 1, .int 1]) (st := [.int 1]) (M := sM Ln (dd_u (dd_u I 148 (upd (I 148) 0 0)) 148 (upd (upd (I 148) 0 0) 0 1)) L c s) (o := (none, .int 1, sM Ln (dd_u (dd_u I 148 (upd (I 148) 0 0)) 148 (upd (upd (I 148) 0 0) 0 1)) L c s)) rfl rfl (dd_Af.ret rfl ?_) (by omega)
      show dd_Rn (e + 16) m_X11_span (14, [.ref 148, .int a1, .int a2, .null, .null, .null], [.int 1], sM Ln (dd_u (dd_u I 148 (upd (I 148) 0 0)) 148 (upd (upd (I 148) 0 0) 0 1)) L c s) _
      exact dd_Rn.retK 2 (pc := 18) (ls := [.ref 148, .int a1, .int a2, .null, .null, .null]) (st := [.int 0]) (M := sM Ln (dd_u (dd_u I 148 (upd (I 148) 0 0)) 148 (upd (upd (I 148) 0 0) 0 1)) L c s) (o := (none, .int 0, sM Ln (dd_u (dd_u I 148 (upd (I 148) 0 0)) 148 (upd (upd (I 148) 0 0) 0 1)) L c s)) rfl rfl h (by omega)
    · have h := h.2 hc
      refine dd_Rn.retK 2 (pc := 15) (ls := [.int a1, .int 0, .int 100]) (st := [.int 1]) (M := sM Ln (dd_u I 148 (upd (I 148) 0 0)) L c s) (o := (none, .int 1, sM Ln (dd_u I 148 (upd (I 148) 0 0)) L c s)) rfl rfl (dd_Af.ret rfl ?_) (by omega)
      show dd_Rn (e + 15) m_X11_noAhead (7, [.int a1], [.int 1], sM Ln (dd_u I 148 (upd (I 148) 0 0)) L c s) _
      refine dd_Rn.retK 2 (pc := 15) (ls := [.int a1]) (st := [.int 0]) (M := sM Ln (dd_u I 148 (upd (I 148) 0 0)) L c s) (o := (none, .int 0, sM Ln (dd_u I 148 (upd (I 148) 0 0)) L c s)) rfl rfl (dd_Af.ret rfl ?_) (by omega)
      show dd_Rn (e + 16) m_X11_span (10, [.ref 148, .int a1, .int a2, .null, .null, .null], [.int 0, .ref 148], sM Ln (dd_u I 148 (upd (I 148) 0 0)) L c s) _
      refine dd_Rn.sub 1 (pc := 11) (ls := [.ref 148, .int a1, .int a2, .null, .null, .null]) (st := [.int 1, .int 0, .ref 148]) (M := sM Ln (dd_u I 148 (upd (I 148) 0 0)) L c s) (x := m_X11_throwsIf) (as := [.ref 148, .int 0, .int 1]) (rest := []) rfl rfl rfl rfl ?_
      show dd_Rn (e + 15) m_X11_throwsIf (0, [.ref 148, .int 0, .int 1], [], sM Ln (dd_u I 148 (upd (I 148) 0 0)) L c s) _
      refine dd_Rn.retK 3 (pc := 10) (ls := [.ref 148, .int 0, .int 1]) (st := [.int 0]) (M := sM Ln (dd_u I 148 (upd (I 148) 0 0)) L c s) (o := (none, .int 0, sM Ln (dd_u I 148 (upd (I 148) 0 0)) L c s)) rfl rfl (dd_Af.ret rfl ?_) (by omega)
      show dd_Rn (e + 16) m_X11_span (14, [.ref 148, .int a1, .int a2, .null, .null, .null], [.int 0], sM Ln (dd_u I 148 (upd (I 148) 0 0)) L c s) _
      refine dd_Rn.cV 2 (pc := 20) (ls := [.ref 148, .int a1, .int a2, .null, .null, .null]) (st := [.ref 148]) (x := m_X11_keepsAll) (as := [.ref 148]) (rest := []) rfl rfl rfl rfl h ?_
      intro I1 L1 h
      show dd_Rn (e + 16) m_X11_span (23, [.ref 148, .int a1, .int a2, .null, .null, .null], [], sM Ln I1 L1 c s) _
      exact dd_Rn.go 4 (cf' := (28, [.ref 148, .int a1, .int a2, .int (-1), .int 1, .null], [], sM Ln I1 L1 c s)) rfl h (by omega)

theorem w_X11_span_28 {Ln d c s : Nat} {I : Nat → Nat → Int32} {L : Nat → Nat → Int64} {Q : dd_O → Prop} {a1 a2 a3 a4 : Int32} {a5 : Value} (hd : 28 ≤ d) (h : (((6 : Int32) < a4 → Q (none, .int a3, sM Ln I L c s)) ∧ (¬ ((6 : Int32) < a4) → dd_Ev (d - 1) m_X11_goesOn [.ref 148, .int a1, .int 0] (sM Ln (dd_u I 149 (upd (I 149) 10 a4)) L c s) (dd_RI Ln c s (fun x1 I1 L1 => dd_Ev (d - 1) m_X11_inOnes [.ref 148] (sM Ln I1 L1 c s) (dd_RI Ln c s (fun x2 I2 L2 => dd_Ev (d - 1) m_J6_bitCount_0f7a4 [.int x2] (sM Ln I2 L2 c s) (dd_RI Ln c s (fun x3 I3 L3 => dd_Ev (d - 1) m_X11_bringsBack [.ref 148] (sM Ln I3 L3 c s) (dd_RV Ln c s (fun I4 L4 => (((0 : Int32) ≤ a3 → ((a2 = 0 → dd_Rn d m_X11_span (28, [.ref 148, .int a1, .int a2, .int (if x3 < a3 then x3 else a3), .int (a4 + 1), .int x3], [], sM Ln I4 L4 c s) Q) ∧ (¬ (a2 = 0) → dd_Rn d m_X11_span (28, [.ref 148, .int a1, .int a2, .int (if a3 < x3 then x3 else a3), .int (a4 + 1), .int x3], [], sM Ln I4 L4 c s) Q))) ∧ (¬ ((0 : Int32) ≤ a3) → dd_Rn d m_X11_span (28, [.ref 148, .int a1, .int a2, .int x3, .int (a4 + 1), .int x3], [], sM Ln I4 L4 c s) Q))))))))))))) : dd_Rn d m_X11_span (28, [.ref 148, .int a1, .int a2, .int a3, .int a4, a5], [], sM Ln I L c s) Q := by
  obtain ⟨e, rfl⟩ : ∃ e, d = e + 16 := ⟨d - 16, by omega⟩
  refine dd_Rn.ite 2 (c := (6 : Int32) < a4) (A := (99, [.ref 148, .int a1, .int a2, .int a3, .int a4, a5], [], sM Ln I L c s)) (B := (35, [.ref 148, .int a1, .int a2, .int a3, .int a4, a5], [], sM Ln I L c s)) rfl (fun hc => ?_) (fun hc => ?_) (by omega)
  · have h := h.1 hc
    exact dd_Rn.retK 1 (pc := 100) (ls := [.ref 148, .int a1, .int a2, .int a3, .int a4, a5]) (st := [.int a3]) (M := sM Ln I L c s) (o := (none, .int a3, sM Ln I L c s)) rfl rfl h (by omega)
  · have h := h.2 hc
    refine dd_Rn.cI 8 (pc := 47) (ls := [.ref 148, .int a1, .int a2, .int a3, .int a4, a5]) (st := [.int 0, .int a1, .ref 148]) (x := m_X11_goesOn) (as := [.ref 148, .int a1, .int 0]) (rest := []) rfl rfl rfl rfl h ?_
    intro x1 I1 L1 h
    show dd_Rn (e + 16) m_X11_span (50, [.ref 148, .int a1, .int a2, .int a3, .int a4, a5], [.int x1], sM Ln I1 L1 c s) _
    refine dd_Rn.cI 2 (pc := 52) (ls := [.ref 148, .int a1, .int a2, .int a3, .int a4, a5]) (st := [.ref 148]) (x := m_X11_inOnes) (as := [.ref 148]) (rest := []) rfl rfl rfl rfl h ?_
    intro x2 I2 L2 h
    show dd_Rn (e + 16) m_X11_span (55, [.ref 148, .int a1, .int a2, .int a3, .int a4, a5], [.int x2], sM Ln I2 L2 c s) _
    refine dd_Rn.cI 0 (pc := 55) (ls := [.ref 148, .int a1, .int a2, .int a3, .int a4, a5]) (st := [.int x2]) (x := m_J6_bitCount_0f7a4) (as := [.int x2]) (rest := []) rfl rfl rfl rfl h ?_
    intro x3 I3 L3 h
    show dd_Rn (e + 16) m_X11_span (58, [.ref 148, .int a1, .int a2, .int a3, .int a4, a5], [.int x3], sM Ln I3 L3 c s) _
    refine dd_Rn.cV 2 (pc := 61) (ls := [.ref 148, .int a1, .int a2, .int a3, .int a4, .int x3]) (st := [.ref 148]) (x := m_X11_bringsBack) (as := [.ref 148]) (rest := []) rfl rfl rfl rfl h ?_
    intro I4 L4 h
    show dd_Rn (e + 16) m_X11_span (64, [.ref 148, .int a1, .int a2, .int a3, .int a4, .int x3], [], sM Ln I4 L4 c s) _
    refine dd_Rn.ite 1 (c := (0 : Int32) ≤ a3) (A := (73, [.ref 148, .int a1, .int a2, .int a3, .int a4, .int x3], [], sM Ln I4 L4 c s)) (B := (68, [.ref 148, .int a1, .int a2, .int a3, .int a4, .int x3], [], sM Ln I4 L4 c s)) rfl (fun hc => ?_) (fun hc => ?_) (by omega)
    · have h := h.1 hc
      refine dd_Rn.ite 1 (c := a2 = 0) (A := (86, [.ref 148, .int a1, .int a2, .int a3, .int a4, .int x3], [], sM Ln I4 L4 c s)) (B := (77, [.ref 148, .int a1, .int a2, .int a3, .int a4, .int x3], [], sM Ln I4 L4 c s)) rfl (fun hc => ?_) (fun hc => ?_) (by omega)
      · have h := h.1 hc
        exact dd_Rn.go 6 (cf' := (28, [.ref 148, .int a1, .int a2, .int (if x3 < a3 then x3 else a3), .int (a4 + 1), .int x3], [], sM Ln I4 L4 c s)) rfl h (by omega)
      · have h := h.2 hc
        exact dd_Rn.go 7 (cf' := (28, [.ref 148, .int a1, .int a2, .int (if a3 < x3 then x3 else a3), .int (a4 + 1), .int x3], [], sM Ln I4 L4 c s)) rfl h (by omega)
    · have h := h.2 hc
      exact dd_Rn.go 5 (cf' := (28, [.ref 148, .int a1, .int a2, .int x3, .int (a4 + 1), .int x3], [], sM Ln I4 L4 c s)) rfl h (by omega)

theorem w_X11_led_0 {Ln d c s : Nat} {I : Nat → Nat → Int32} {L : Nat → Nat → Int64} {Q : dd_O → Prop} {a1 a2 : Int32} (hd : 28 ≤ d) (h : ((a1 < 0 → Q (none, .int 0, sM Ln (dd_u (dd_u I 148 (upd (I 148) 0 0)) 148 (upd (upd (I 148) 0 0) 0 1)) L c s)) ∧ (¬ (a1 < 0) → (((I 149 1) - 1 < a1 → Q (none, .int 0, sM Ln (dd_u (dd_u I 148 (upd (I 148) 0 0)) 148 (upd (upd (I 148) 0 0) 0 1)) L c s)) ∧ (¬ ((I 149 1) - 1 < a1) → dd_Rn d m_X11_led (36, [.ref 148, .int a1, .int a2, .int 0, .int (-1), .int ((I 149 9) - 1)], [], sM Ln (dd_u I 148 (upd (I 148) 0 0)) L c s) Q))))) : dd_Ev d m_X11_led [.ref 148, .int a1, .int a2] (sM Ln I L c s) Q := by
  obtain ⟨e, rfl⟩ : ∃ e, d = e + 16 := ⟨d - 16, by omega⟩
  show dd_Rn (e + 16) m_X11_led (0, [.ref 148, .int a1, .int a2, .null, .null, .null], [], sM Ln I L c s) Q
  refine dd_Rn.sub 6 (pc := 8) (ls := [.ref 148, .int a1, .int a2, .null, .null, .null]) (st := [.int a1, .ref 148, .ref 148]) (M := sM Ln (dd_u I 148 (upd (I 148) 0 0)) L c s) (x := m_X11_noBoy) (as := [.ref 148, .int a1]) (rest := [.ref 148]) rfl rfl rfl rfl ?_
  show dd_Rn (e + 15) m_X11_noBoy (0, [.ref 148, .int a1], [], sM Ln (dd_u I 148 (upd (I 148) 0 0)) L c s) _
  refine dd_Rn.sub 3 (pc := 3) (ls := [.ref 148, .int a1]) (st := [.ref 148, .int 0, .int a1]) (M := sM Ln (dd_u I 148 (upd (I 148) 0 0)) L c s) (x := m_X11_boys) (as := [.ref 148]) (rest := [.int 0, .int a1]) rfl rfl rfl rfl ?_
  show dd_Rn (e + 14) m_X11_boys (0, [.ref 148], [], sM Ln (dd_u I 148 (upd (I 148) 0 0)) L c s) _
  refine dd_Rn.retK 4 (pc := 6) (ls := [.ref 148]) (st := [.int (I 149 1)]) (M := sM Ln (dd_u I 148 (upd (I 148) 0 0)) L c s) (o := (none, .int (I 149 1), sM Ln (dd_u I 148 (upd (I 148) 0 0)) L c s)) rfl rfl (dd_Af.ret rfl ?_) (by omega)
  show dd_Rn (e + 15) m_X11_noBoy (6, [.ref 148, .int a1], [.int (I 149 1), .int 0, .int a1], sM Ln (dd_u I 148 (upd (I 148) 0 0)) L c s) _
  refine dd_Rn.sub 2 (pc := 8) (ls := [.ref 148, .int a1]) (st := [.int ((I 149 1) - 1), .int 0, .int a1]) (M := sM Ln (dd_u I 148 (upd (I 148) 0 0)) L c s) (x := m_X11_in) (as := [.int a1, .int 0, .int ((I 149 1) - 1)]) (rest := []) rfl rfl rfl rfl ?_
  show dd_Rn (e + 14) m_X11_in (0, [.int a1, .int 0, .int ((I 149 1) - 1)], [], sM Ln (dd_u I 148 (upd (I 148) 0 0)) L c s) _
  refine dd_Rn.ite 2 (c := a1 < 0) (A := (14, [.int a1, .int 0, .int ((I 149 1) - 1)], [], sM Ln (dd_u I 148 (upd (I 148) 0 0)) L c s)) (B := (5, [.int a1, .int 0, .int ((I 149 1) - 1)], [], sM Ln (dd_u I 148 (upd (I 148) 0 0)) L c s)) rfl (fun hc => ?_) (fun hc => ?_) (by omega)
  · have h := h.1 hc
    refine dd_Rn.retK 1 (pc := 15) (ls := [.int a1, .int 0, .int ((I 149 1) - 1)]) (st := [.int 0]) (M := sM Ln (dd_u I 148 (upd (I 148) 0 0)) L c s) (o := (none, .int 0, sM Ln (dd_u I 148 (upd (I 148) 0 0)) L c s)) rfl rfl (dd_Af.ret rfl ?_) (by omega)
    show dd_Rn (e + 15) m_X11_noBoy (11, [.ref 148, .int a1], [.int 0], sM Ln (dd_u I 148 (upd (I 148) 0 0)) L c s) _
    refine dd_Rn.retK 3 (pc := 19) (ls := [.ref 148, .int a1]) (st := [.int 1]) (M := sM Ln (dd_u I 148 (upd (I 148) 0 0)) L c s) (o := (none, .int 1, sM Ln (dd_u I 148 (upd (I 148) 0 0)) L c s)) rfl rfl (dd_Af.ret rfl ?_) (by omega)
    show dd_Rn (e + 16) m_X11_led (11, [.ref 148, .int a1, .int a2, .null, .null, .null], [.int 1, .ref 148], sM Ln (dd_u I 148 (upd (I 148) 0 0)) L c s) _
    refine dd_Rn.sub 1 (pc := 12) (ls := [.ref 148, .int a1, .int a2, .null, .null, .null]) (st := [.int 1, .int 1, .ref 148]) (M := sM Ln (dd_u I 148 (upd (I 148) 0 0)) L c s) (x := m_X11_throwsIf) (as := [.ref 148, .int 1, .int 1]) (rest := []) rfl rfl rfl rfl ?_
    show dd_Rn (e + 15) m_X11_throwsIf (0, [.ref 148, .int 1, .int 1], [], sM Ln (dd_u I 148 (upd (I 148) 0 0)) L c s) _
    refine dd_Rn.retK 6 (pc := 10) (ls := [.ref 148, .int 1, .int 1]) (st := [.int 1]) (M := sM Ln (dd_u (dd_u I 148 (upd (I 148) 0 0)) 148 (upd (upd (I 148) 0 0) 0 1)) L c s) (o := (none, .int 1, sM Ln (dd_u (dd_u I 148 (upd (I 148) 0 0)) 148 (upd (upd (I 148) 0 0) 0 1)) L c s)) rfl rfl (dd_Af.ret rfl ?_) (by omega)
    show dd_Rn (e + 16) m_X11_led (15, [.ref 148, .int a1, .int a2, .null, .null, .null], [.int 1], sM Ln (dd_u (dd_u I 148 (upd (I 148) 0 0)) 148 (upd (upd (I 148) 0 0) 0 1)) L c s) _
    exact dd_Rn.retK 2 (pc := 19) (ls := [.ref 148, .int a1, .int a2, .null, .null, .null]) (st := [.int 0]) (M := sM Ln (dd_u (dd_u I 148 (upd (I 148) 0 0)) 148 (upd (upd (I 148) 0 0) 0 1)) L c s) (o := (none, .int 0, sM Ln (dd_u (dd_u I 148 (upd (I 148) 0 0)) 148 (upd (upd (I 148) 0 0) 0 1)) L c s)) rfl rfl h (by omega)
  · have h := h.2 hc
    refine dd_Rn.ite 2 (c := (I 149 1) - 1 < a1) (A := (14, [.int a1, .int 0, .int ((I 149 1) - 1)], [], sM Ln (dd_u I 148 (upd (I 148) 0 0)) L c s)) (B := (10, [.int a1, .int 0, .int ((I 149 1) - 1)], [], sM Ln (dd_u I 148 (upd (I 148) 0 0)) L c s)) rfl (fun hc => ?_) (fun hc => ?_) (by omega)
    · have h := h.1 hc
      refine dd_Rn.retK 1 (pc := 15) (ls := [.int a1, .int 0, .int ((I 149 1) - 1)]) (st := [.int 0]) (M := sM Ln (dd_u I 148 (upd (I 148) 0 0)) L c s) (o := (none, .int 0, sM Ln (dd_u I 148 (upd (I 148) 0 0)) L c s)) rfl rfl (dd_Af.ret rfl ?_) (by omega)
      show dd_Rn (e + 15) m_X11_noBoy (11, [.ref 148, .int a1], [.int 0], sM Ln (dd_u I 148 (upd (I 148) 0 0)) L c s) _
      refine dd_Rn.retK 3 (pc := 19) (ls := [.ref 148, .int a1]) (st := [.int 1]) (M := sM Ln (dd_u I 148 (upd (I 148) 0 0)) L c s) (o := (none, .int 1, sM Ln (dd_u I 148 (upd (I 148) 0 0)) L c s)) rfl rfl (dd_Af.ret rfl ?_) (by omega)
      show dd_Rn (e + 16) m_X11_led (11, [.ref 148, .int a1, .int a2, .null, .null, .null], [.int 1, .ref 148], sM Ln (dd_u I 148 (upd (I 148) 0 0)) L c s) _
      refine dd_Rn.sub 1 (pc := 12) (ls := [.ref 148, .int a1, .int a2, .null, .null, .null]) (st := [.int 1, .int 1, .ref 148]) (M := sM Ln (dd_u I 148 (upd (I 148) 0 0)) L c s) (x := m_X11_throwsIf) (as := [.ref 148, .int 1, .int 1]) (rest := []) rfl rfl rfl rfl ?_
      show dd_Rn (e + 15) m_X11_throwsIf (0, [.ref 148, .int 1, .int 1], [], sM Ln (dd_u I 148 (upd (I 148) 0 0)) L c s) _
      refine dd_Rn.retK 6 (pc := 10) (ls := [.ref 148, .int 1, .int 1]) (st := [.int 1]) (M := sM Ln (dd_u (dd_u I 148 (upd (I 148) 0 0)) 148 (upd (upd (I 148) 0 0) 0 1)) L c s) (o := (none, .int 1, sM Ln (dd_u (dd_u I 148 (upd (I 148) 0 0)) 148 (upd (upd (I 148) 0 0) 0 1)) L c s)) rfl rfl (dd_Af.ret rfl ?_) (by omega)
      show dd_Rn (e + 16) m_X11_led (15, [.ref 148, .int a1, .int a2, .null, .null, .null], [.int 1], sM Ln (dd_u (dd_u I 148 (upd (I 148) 0 0)) 148 (upd (upd (I 148) 0 0) 0 1)) L c s) _
      exact dd_Rn.retK 2 (pc := 19) (ls := [.ref 148, .int a1, .int a2, .null, .null, .null]) (st := [.int 0]) (M := sM Ln (dd_u (dd_u I 148 (upd (I 148) 0 0)) 148 (upd (upd (I 148) 0 0) 0 1)) L c s) (o := (none, .int 0, sM Ln (dd_u (dd_u I 148 (upd (I 148) 0 0)) 148 (upd (upd (I 148) 0 0) 0 1)) L c s)) rfl rfl h (by omega)
    · have h := h.2 hc
      refine dd_Rn.retK 2 (pc := 15) (ls := [.int a1, .int 0, .int ((I 149 1) - 1)]) (st := [.int 1]) (M := sM Ln (dd_u I 148 (upd (I 148) 0 0)) L c s) (o := (none, .int 1, sM Ln (dd_u I 148 (upd (I 148) 0 0)) L c s)) rfl rfl (dd_Af.ret rfl ?_) (by omega)
      show dd_Rn (e + 15) m_X11_noBoy (11, [.ref 148, .int a1], [.int 1], sM Ln (dd_u I 148 (upd (I 148) 0 0)) L c s) _
      refine dd_Rn.retK 2 (pc := 19) (ls := [.ref 148, .int a1]) (st := [.int 0]) (M := sM Ln (dd_u I 148 (upd (I 148) 0 0)) L c s) (o := (none, .int 0, sM Ln (dd_u I 148 (upd (I 148) 0 0)) L c s)) rfl rfl (dd_Af.ret rfl ?_) (by omega)
      show dd_Rn (e + 16) m_X11_led (11, [.ref 148, .int a1, .int a2, .null, .null, .null], [.int 0, .ref 148], sM Ln (dd_u I 148 (upd (I 148) 0 0)) L c s) _
      refine dd_Rn.sub 1 (pc := 12) (ls := [.ref 148, .int a1, .int a2, .null, .null, .null]) (st := [.int 1, .int 0, .ref 148]) (M := sM Ln (dd_u I 148 (upd (I 148) 0 0)) L c s) (x := m_X11_throwsIf) (as := [.ref 148, .int 0, .int 1]) (rest := []) rfl rfl rfl rfl ?_
      show dd_Rn (e + 15) m_X11_throwsIf (0, [.ref 148, .int 0, .int 1], [], sM Ln (dd_u I 148 (upd (I 148) 0 0)) L c s) _
      refine dd_Rn.retK 3 (pc := 10) (ls := [.ref 148, .int 0, .int 1]) (st := [.int 0]) (M := sM Ln (dd_u I 148 (upd (I 148) 0 0)) L c s) (o := (none, .int 0, sM Ln (dd_u I 148 (upd (I 148) 0 0)) L c s)) rfl rfl (dd_Af.ret rfl ?_) (by omega)
      show dd_Rn (e + 16) m_X11_led (15, [.ref 148, .int a1, .int a2, .null, .null, .null], [.int 0], sM Ln (dd_u I 148 (upd (I 148) 0 0)) L c s) _
      exact dd_Rn.go 12 (cf' := (36, [.ref 148, .int a1, .int a2, .int 0, .int (-1), .int ((I 149 9) - 1)], [], sM Ln (dd_u I 148 (upd (I 148) 0 0)) L c s)) rfl h (by omega)

theorem w_X11_led_36 {Ln d c s : Nat} {I : Nat → Nat → Int32} {L : Nat → Nat → Int64} {Q : dd_O → Prop} {a1 a2 a3 a4 a5 : Int32} (hd : 28 ≤ d) (h : ((a5 < 0 → ((a2 = 0 → Q (none, .int a3, sM Ln I L c s)) ∧ (¬ (a2 = 0) → Q (none, .int a4, sM Ln I L c s)))) ∧ (¬ (a5 < 0) → ((0 ≤ ((222 : Int32) + ((5 : Int32) * a5)) + 2 ∧ tn (((222 : Int32) + ((5 : Int32) * a5)) + 2) < 2220) ∧ ((I 149 (tn (((222 : Int32) + ((5 : Int32) * a5)) + 2)) = a1 → ((0 ≤ ((222 : Int32) + ((5 : Int32) * a5)) + 4 ∧ tn (((222 : Int32) + ((5 : Int32) * a5)) + 4) < 2220) ∧ dd_Rn d m_X11_led (36, [.ref 148, .int a1, .int a2, .int (a3 + 1), .int (I 149 (tn (((222 : Int32) + ((5 : Int32) * a5)) + 4))), .int (a5 + (-1))], [], sM Ln I L c s) Q)) ∧ (¬ (I 149 (tn (((222 : Int32) + ((5 : Int32) * a5)) + 2)) = a1) → dd_Rn d m_X11_led (36, [.ref 148, .int a1, .int a2, .int a3, .int a4, .int (a5 + (-1))], [], sM Ln I L c s) Q)))))) : dd_Rn d m_X11_led (36, [.ref 148, .int a1, .int a2, .int a3, .int a4, .int a5], [], sM Ln I L c s) Q := by
  obtain ⟨e, rfl⟩ : ∃ e, d = e + 16 := ⟨d - 16, by omega⟩
  refine dd_Rn.ite 1 (c := a5 < 0) (A := (73, [.ref 148, .int a1, .int a2, .int a3, .int a4, .int a5], [], sM Ln I L c s)) (B := (41, [.ref 148, .int a1, .int a2, .int a3, .int a4, .int a5], [], sM Ln I L c s)) rfl (fun hc => ?_) (fun hc => ?_) (by omega)
  · have h := h.1 hc
    refine dd_Rn.ite 1 (c := a2 = 0) (A := (82, [.ref 148, .int a1, .int a2, .int a3, .int a4, .int a5], [], sM Ln I L c s)) (B := (77, [.ref 148, .int a1, .int a2, .int a3, .int a4, .int a5], [], sM Ln I L c s)) rfl (fun hc => ?_) (fun hc => ?_) (by omega)
    · have h := h.1 hc
      exact dd_Rn.retK 1 (pc := 83) (ls := [.ref 148, .int a1, .int a2, .int a3, .int a4, .int a5]) (st := [.int a3]) (M := sM Ln I L c s) (o := (none, .int a3, sM Ln I L c s)) rfl rfl h (by omega)
    · have h := h.2 hc
      exact dd_Rn.retK 2 (pc := 83) (ls := [.ref 148, .int a1, .int a2, .int a3, .int a4, .int a5]) (st := [.int a4]) (M := sM Ln I L c s) (o := (none, .int a4, sM Ln I L c s)) rfl rfl h (by omega)
  · have h := h.2 hc
    refine dd_Rn.sub 3 (pc := 45) (ls := [.ref 148, .int a1, .int a2, .int a3, .int a4, .int a5]) (st := [.int 2, .int a5, .ref 148]) (M := sM Ln I L c s) (x := m_X11_ofLog) (as := [.ref 148, .int a5, .int 2]) (rest := []) rfl rfl rfl rfl ?_
    show dd_Rn (e + 15) m_X11_ofLog (0, [.ref 148, .int a5, .int 2], [], sM Ln I L c s) _
    obtain ⟨hc, h⟩ := h
    refine dd_Rn.go 9 (cf' := (13, [.ref 148, .int a5, .int 2], [.int (((222 : Int32) + ((5 : Int32) * a5)) + 2), .ref 149], sM Ln I L c s)) rfl ?_ (by omega)
    refine dd_Rn.ci (fun j0 => (13, [.ref 148, .int a5, .int 2], [.int j0, .ref 149], sM Ln I L c s)) (fun j0 => (14, [.ref 148, .int a5, .int 2], [.int (I 149 (tn j0))], sM Ln I L c s)) (fun j0 => 0 ≤ j0 ∧ tn j0 < 2220) (((222 : Int32) + ((5 : Int32) * a5)) + 2) (fun j0 hc h => dd_Rn.chk 0 (c := 0 ≤ j0 ∧ tn j0 < 2220) (A := (14, [.ref 148, .int a5, .int 2], [.int (I 149 (tn j0))], sM Ln I L c s)) rfl hc h (by omega)) hc ?_
    refine dd_Rn.se (cf := (14, [.ref 148, .int a5, .int 2], [.int (I 149 (tn (((222 : Int32) + ((5 : Int32) * a5)) + 2)))], sM Ln I L c s)) ?_
    refine dd_Rn.retK 0 (pc := 14) (ls := [.ref 148, .int a5, .int 2]) (st := [.int (I 149 (tn (((222 : Int32) + ((5 : Int32) * a5)) + 2)))]) (M := sM Ln I L c s) (o := (none, .int (I 149 (tn (((222 : Int32) + ((5 : Int32) * a5)) + 2))), sM Ln I L c s)) rfl rfl (dd_Af.ret rfl ?_) (by omega)
    show dd_Rn (e + 16) m_X11_led (48, [.ref 148, .int a1, .int a2, .int a3, .int a4, .int a5], [.int (I 149 (tn (((222 : Int32) + ((5 : Int32) * a5)) + 2)))], sM Ln I L c s) _
    refine dd_Rn.ite 1 (c := I 149 (tn (((222 : Int32) + ((5 : Int32) * a5)) + 2)) = a1) (A := (55, [.ref 148, .int a1, .int a2, .int a3, .int a4, .int a5], [], sM Ln I L c s)) (B := (52, [.ref 148, .int a1, .int a2, .int a3, .int a4, .int a5], [], sM Ln I L c s)) rfl (fun hc => ?_) (fun hc => ?_) (by omega)
    · have h := h.1 hc
      refine dd_Rn.sub 4 (pc := 62) (ls := [.ref 148, .int a1, .int a2, .int (a3 + 1), .int a4, .int a5]) (st := [.int 4, .int a5, .ref 148]) (M := sM Ln I L c s) (x := m_X11_ofLog) (as := [.ref 148, .int a5, .int 4]) (rest := []) rfl rfl rfl rfl ?_
      show dd_Rn (e + 15) m_X11_ofLog (0, [.ref 148, .int a5, .int 4], [], sM Ln I L c s) _
      obtain ⟨hc, h⟩ := h
      refine dd_Rn.go 9 (cf' := (13, [.ref 148, .int a5, .int 4], [.int (((222 : Int32) + ((5 : Int32) * a5)) + 4), .ref 149], sM Ln I L c s)) rfl ?_ (by omega)
      refine dd_Rn.ci (fun j0 => (13, [.ref 148, .int a5, .int 4], [.int j0, .ref 149], sM Ln I L c s)) (fun j0 => (14, [.ref 148, .int a5, .int 4], [.int (I 149 (tn j0))], sM Ln I L c s)) (fun j0 => 0 ≤ j0 ∧ tn j0 < 2220) (((222 : Int32) + ((5 : Int32) * a5)) + 4) (fun j0 hc h => dd_Rn.chk 0 (c := 0 ≤ j0 ∧ tn j0 < 2220) (A := (14, [.ref 148, .int a5, .int 4], [.int (I 149 (tn j0))], sM Ln I L c s)) rfl hc h (by omega)) hc ?_
      refine dd_Rn.se (cf := (14, [.ref 148, .int a5, .int 4], [.int (I 149 (tn (((222 : Int32) + ((5 : Int32) * a5)) + 4)))], sM Ln I L c s)) ?_
      refine dd_Rn.retK 0 (pc := 14) (ls := [.ref 148, .int a5, .int 4]) (st := [.int (I 149 (tn (((222 : Int32) + ((5 : Int32) * a5)) + 4)))]) (M := sM Ln I L c s) (o := (none, .int (I 149 (tn (((222 : Int32) + ((5 : Int32) * a5)) + 4))), sM Ln I L c s)) rfl rfl (dd_Af.ret rfl ?_) (by omega)
      show dd_Rn (e + 16) m_X11_led (65, [.ref 148, .int a1, .int a2, .int (a3 + 1), .int a4, .int a5], [.int (I 149 (tn (((222 : Int32) + ((5 : Int32) * a5)) + 4)))], sM Ln I L c s) _
      exact dd_Rn.go 3 (cf' := (36, [.ref 148, .int a1, .int a2, .int (a3 + 1), .int (I 149 (tn (((222 : Int32) + ((5 : Int32) * a5)) + 4))), .int (a5 + (-1))], [], sM Ln I L c s)) rfl h (by omega)
    · have h := h.2 hc
      exact dd_Rn.go 3 (cf' := (36, [.ref 148, .int a1, .int a2, .int a3, .int a4, .int (a5 + (-1))], [], sM Ln I L c s)) rfl h (by omega)

theorem w_X11_log_0 {Ln d c s : Nat} {I : Nat → Nat → Int32} {L : Nat → Nat → Int64} {Q : dd_O → Prop} {a1 a2 : Int32} (hd : 28 ≤ d) (h : ((a2 < 0 → Q (none, .int 0, sM Ln (dd_u (dd_u I 148 (upd (I 148) 0 0)) 148 (upd (upd (I 148) 0 0) 0 1)) L c s)) ∧ (¬ (a2 < 0) → (((4 : Int32) < a2 → Q (none, .int 0, sM Ln (dd_u (dd_u I 148 (upd (I 148) 0 0)) 148 (upd (upd (I 148) 0 0) 0 1)) L c s)) ∧ (¬ ((4 : Int32) < a2) → ((a1 < 0 → Q (none, .int (-1), sM Ln (dd_u I 148 (upd (I 148) 0 0)) L c s)) ∧ (¬ (a1 < 0) → (((I 149 9) - 1 < a1 → Q (none, .int (-1), sM Ln (dd_u I 148 (upd (I 148) 0 0)) L c s)) ∧ (¬ ((I 149 9) - 1 < a1) → ((0 ≤ ((222 : Int32) + ((5 : Int32) * a1)) + a2 ∧ tn (((222 : Int32) + ((5 : Int32) * a1)) + a2) < 2220) ∧ Q (none, .int (I 149 (tn (((222 : Int32) + ((5 : Int32) * a1)) + a2))), sM Ln (dd_u I 148 (upd (I 148) 0 0)) L c s))))))))))) : dd_Ev d m_X11_log [.ref 148, .int a1, .int a2] (sM Ln I L c s) Q := by
  obtain ⟨e, rfl⟩ : ∃ e, d = e + 16 := ⟨d - 16, by omega⟩
  show dd_Rn (e + 16) m_X11_log (0, [.ref 148, .int a1, .int a2], [], sM Ln I L c s) Q
  refine dd_Rn.sub 7 (pc := 9) (ls := [.ref 148, .int a1, .int a2]) (st := [.int 4, .int 0, .int a2, .ref 148]) (M := sM Ln (dd_u I 148 (upd (I 148) 0 0)) L c s) (x := m_X11_in) (as := [.int a2, .int 0, .int 4]) (rest := [.ref 148]) rfl rfl rfl rfl ?_
  show dd_Rn (e + 15) m_X11_in (0, [.int a2, .int 0, .int 4], [], sM Ln (dd_u I 148 (upd (I 148) 0 0)) L c s) _
  refine dd_Rn.ite 2 (c := a2 < 0) (A := (14, [.int a2, .int 0, .int 4], [], sM Ln (dd_u I 148 (upd (I 148) 0 0)) L c s)) (B := (5, [.int a2, .int 0, .int 4], [], sM Ln (dd_u I 148 (upd (I 148) 0 0)) L c s)) rfl (fun hc => ?_) (fun hc => ?_) (by omega)
  · have h := h.1 hc
    refine dd_Rn.retK 1 (pc := 15) (ls := [.int a2, .int 0, .int 4]) (st := [.int 0]) (M := sM Ln (dd_u I 148 (upd (I 148) 0 0)) L c s) (o := (none, .int 0, sM Ln (dd_u I 148 (upd (I 148) 0 0)) L c s)) rfl rfl (dd_Af.ret rfl ?_) (by omega)
    show dd_Rn (e + 16) m_X11_log (12, [.ref 148, .int a1, .int a2], [.int 0, .ref 148], sM Ln (dd_u I 148 (upd (I 148) 0 0)) L c s) _
    refine dd_Rn.sub 4 (pc := 21) (ls := [.ref 148, .int a1, .int a2]) (st := [.int 1, .int 1, .ref 148]) (M := sM Ln (dd_u I 148 (upd (I 148) 0 0)) L c s) (x := m_X11_throwsIf) (as := [.ref 148, .int 1, .int 1]) (rest := []) rfl rfl rfl rfl ?_
    show dd_Rn (e + 15) m_X11_throwsIf (0, [.ref 148, .int 1, .int 1], [], sM Ln (dd_u I 148 (upd (I 148) 0 0)) L c s) _
    refine dd_Rn.retK 6 (pc := 10) (ls := [.ref 148, .int 1, .int 1]) (st := [.int 1]) (M := sM Ln (dd_u (dd_u I 148 (upd (I 148) 0 0)) 148 (upd (upd (I 148) 0 0) 0 1)) L c s) (o := (none, .int 1, sM Ln (dd_u (dd_u I 148 (upd (I 148) 0 0)) 148 (upd (upd (I 148) 0 0) 0 1)) L c s)) rfl rfl (dd_Af.ret rfl ?_) (by omega)
    show dd_Rn (e + 16) m_X11_log (24, [.ref 148, .int a1, .int a2], [.int 1], sM Ln (dd_u (dd_u I 148 (upd (I 148) 0 0)) 148 (upd (upd (I 148) 0 0) 0 1)) L c s) _
    exact dd_Rn.retK 2 (pc := 28) (ls := [.ref 148, .int a1, .int a2]) (st := [.int 0]) (M := sM Ln (dd_u (dd_u I 148 (upd (I 148) 0 0)) 148 (upd (upd (I 148) 0 0) 0 1)) L c s) (o := (none, .int 0, sM Ln (dd_u (dd_u I 148 (upd (I 148) 0 0)) 148 (upd (upd (I 148) 0 0) 0 1)) L c s)) rfl rfl h (by omega)
  · have h := h.2 hc
    refine dd_Rn.ite 2 (c := (4 : Int32) < a2) (A := (14, [.int a2, .int 0, .int 4], [], sM Ln (dd_u I 148 (upd (I 148) 0 0)) L c s)) (B := (10, [.int a2, .int 0, .int 4], [], sM Ln (dd_u I 148 (upd (I 148) 0 0)) L c s)) rfl (fun hc => ?_) (fun hc => ?_) (by omega)
    · have h := h.1 hc
      refine dd_Rn.retK 1 (pc := 15) (ls := [.int a2, .int 0, .int 4]) (st := [.int 0]) (M := sM Ln (dd_u I 148 (upd (I 148) 0 0)) L c s) (o := (none, .int 0, sM Ln (dd_u I 148 (upd (I 148) 0 0)) L c s)) rfl rfl (dd_Af.ret rfl ?_) (by omega)
      show dd_Rn (e + 16) m_X11_log (12, [.ref 148, .int a1, .int a2], [.int 0, .ref 148], sM Ln (dd_u I 148 (upd (I 148) 0 0)) L c s) _
      refine dd_Rn.sub 4 (pc := 21) (ls := [.ref 148, .int a1, .int a2]) (st := [.int 1, .int 1, .ref 148]) (M := sM Ln (dd_u I 148 (upd (I 148) 0 0)) L c s) (x := m_X11_throwsIf) (as := [.ref 148, .int 1, .int 1]) (rest := []) rfl rfl rfl rfl ?_
      show dd_Rn (e + 15) m_X11_throwsIf (0, [.ref 148, .int 1, .int 1], [], sM Ln (dd_u I 148 (upd (I 148) 0 0)) L c s) _
      refine dd_Rn.retK 6 (pc := 10) (ls := [.ref 148, .int 1, .int 1]) (st := [.int 1]) (M := sM Ln (dd_u (dd_u I 148 (upd (I 148) 0 0)) 148 (upd (upd (I 148) 0 0) 0 1)) L c s) (o := (none, .int 1, sM Ln (dd_u (dd_u I 148 (upd (I 148) 0 0)) 148 (upd (upd (I 148) 0 0) 0 1)) L c s)) rfl rfl (dd_Af.ret rfl ?_) (by omega)
      show dd_Rn (e + 16) m_X11_log (24, [.ref 148, .int a1, .int a2], [.int 1], sM Ln (dd_u (dd_u I 148 (upd (I 148) 0 0)) 148 (upd (upd (I 148) 0 0) 0 1)) L c s) _
      exact dd_Rn.retK 2 (pc := 28) (ls := [.ref 148, .int a1, .int a2]) (st := [.int 0]) (M := sM Ln (dd_u (dd_u I 148 (upd (I 148) 0 0)) 148 (upd (upd (I 148) 0 0) 0 1)) L c s) (o := (none, .int 0, sM Ln (dd_u (dd_u I 148 (upd (I 148) 0 0)) 148 (upd (upd (I 148) 0 0) 0 1)) L c s)) rfl rfl h (by omega)
    · have h := h.2 hc
      refine dd_Rn.retK 2 (pc := 15) (ls := [.int a2, .int 0, .int 4]) (st := [.int 1]) (M := sM Ln (dd_u I 148 (upd (I 148) 0 0)) L c s) (o := (none, .int 1, sM Ln (dd_u I 148 (upd (I 148) 0 0)) L c s)) rfl rfl (dd_Af.ret rfl ?_) (by omega)
      show dd_Rn (e + 16) m_X11_log (12, [.ref 148, .int a1, .int a2], [.int 1, .ref 148], sM Ln (dd_u I 148 (upd (I 148) 0 0)) L c s) _
      refine dd_Rn.sub 3 (pc := 21) (ls := [.ref 148, .int a1, .int a2]) (st := [.int 1, .int 0, .ref 148]) (M := sM Ln (dd_u I 148 (upd (I 148) 0 0)) L c s) (x := m_X11_throwsIf) (as := [.ref 148, .int 0, .int 1]) (rest := []) rfl rfl rfl rfl ?_
      show dd_Rn (e + 15) m_X11_throwsIf (0, [.ref 148, .int 0, .int 1], [], sM Ln (dd_u I 148 (upd (I 148) 0 0)) L c s) _
      refine dd_Rn.retK 3 (pc := 10) (ls := [.ref 148, .int 0, .int 1]) (st := [.int 0]) (M := sM Ln (dd_u I 148 (upd (I 148) 0 0)) L c s) (o := (none, .int 0, sM Ln (dd_u I 148 (upd (I 148) 0 0)) L c s)) rfl rfl (dd_Af.ret rfl ?_) (by omega)
      show dd_Rn (e + 16) m_X11_log (24, [.ref 148, .int a1, .int a2], [.int 0], sM Ln (dd_u I 148 (upd (I 148) 0 0)) L c s) _
      refine dd_Rn.sub 9 (pc := 40) (ls := [.ref 148, .int a1, .int a2]) (st := [.int ((I 149 9) - 1), .int 0, .int a1]) (M := sM Ln (dd_u I 148 (upd (I 148) 0 0)) L c s) (x := m_X11_in) (as := [.int a1, .int 0, .int ((I 149 9) - 1)]) (rest := []) rfl rfl rfl rfl ?_
      show dd_Rn (e + 15) m_X11_in (0, [.int a1, .int 0, .int ((I 149 9) - 1)], [], sM Ln (dd_u I 148 (upd (I 148) 0 0)) L c s) _
      refine dd_Rn.ite 2 (c := a1 < 0) (A := (14, [.int a1, .int 0, .int ((I 149 9) - 1)], [], sM Ln (dd_u I 148 (upd (I 148) 0 0)) L c s)) (B := (5, [.int a1, .int 0, .int ((I 149 9) - 1)], [], sM Ln (dd_u I 148 (upd (I 148) 0 0)) L c s)) rfl (fun hc => ?_) (fun hc => ?_) (by omega)
      · have h := h.1 hc
        refine dd_Rn.retK 1 (pc := 15) (ls := [.int a1, .int 0, .int ((I 149 9) - 1)]) (st := [.int 0]) (M := sM Ln (dd_u I 148 (upd (I 148) 0 0)) L c s) (o := (none, .int 0, sM Ln (dd_u I 148 (upd (I 148) 0 0)) L c s)) rfl rfl (dd_Af.ret rfl ?_) (by omega)
        show dd_Rn (e + 16) m_X11_log (43, [.ref 148, .int a1, .int a2], [.int 0], sM Ln (dd_u I 148 (upd (I 148) 0 0)) L c s) _
        exact dd_Rn.retK 2 (pc := 56) (ls := [.ref 148, .int a1, .int a2]) (st := [.int (-1)]) (M := sM Ln (dd_u I 148 (upd (I 148) 0 0)) L c s) (o := (none, .int (-1), sM Ln (dd_u I 148 (upd (I 148) 0 0)) L c s)) rfl rfl h (by omega)
      · have h := h.2 hc
        refine dd_Rn.ite 2 (c := (I 149 9) - 1 < a1) (A := (14, [.int a1, .int 0, .int ((I 149 9) - 1)], [], sM Ln (dd_u I 148 (upd (I 148) 0 0)) L c s)) (B := (10, [.int a1, .int 0, .int ((I 149 9) - 1)], [], sM Ln (dd_u I 148 (upd (I 148) 0 0)) L c s)) rfl (fun hc => ?_) (fun hc => ?_) (by omega)
        · have h := h.1 hc
          refine dd_Rn.retK 1 (pc := 15) (ls := [.int a1, .int 0, .int ((I 149 9) - 1)]) (st := [.int 0]) (M := sM Ln (dd_u I 148 (upd (I 148) 0 0)) L c s) (o := (none, .int 0, sM Ln (dd_u I 148 (upd (I 148) 0 0)) L c s)) rfl rfl (dd_Af.ret rfl ?_) (by omega)
          show dd_Rn (e + 16) m_X11_log (43, [.ref 148, .int a1, .int a2], [.int 0], sM Ln (dd_u I 148 (upd (I 148) 0 0)) L c s) _
          exact dd_Rn.retK 2 (pc := 56) (ls := [.ref 148, .int a1, .int a2]) (st := [.int (-1)]) (M := sM Ln (dd_u I 148 (upd (I 148) 0 0)) L c s) (o := (none, .int (-1), sM Ln (dd_u I 148 (upd (I 148) 0 0)) L c s)) rfl rfl h (by omega)
        · have h := h.2 hc
          refine dd_Rn.retK 2 (pc := 15) (ls := [.int a1, .int 0, .int ((I 149 9) - 1)]) (st := [.int 1]) (M := sM Ln (dd_u I 148 (upd (I 148) 0 0)) L c s) (o := (none, .int 1, sM Ln (dd_u I 148 (upd (I 148) 0 0)) L c s)) rfl rfl (dd_Af.ret rfl ?_) (by omega)
          show dd_Rn (e + 16) m_X11_log (43, [.ref 148, .int a1, .int a2], [.int 1], sM Ln (dd_u I 148 (upd (I 148) 0 0)) L c s) _
          refine dd_Rn.sub 4 (pc := 49) (ls := [.ref 148, .int a1, .int a2]) (st := [.int a2, .int a1, .ref 148]) (M := sM Ln (dd_u I 148 (upd (I 148) 0 0)) L c s) (x := m_X11_ofLog) (as := [.ref 148, .int a1, .int a2]) (rest := []) rfl rfl rfl rfl ?_
          show dd_Rn (e + 15) m_X11_ofLog (0, [.ref 148, .int a1, .int a2], [], sM Ln (dd_u I 148 (upd (I 148) 0 0)) L c s) _
          obtain ⟨hc, h⟩ := h
          refine dd_Rn.go 9 (cf' := (13, [.ref 148, .int a1, .int a2], [.int (((222 : Int32) + ((5 : Int32) * a1)) + a2), .ref 149], sM Ln (dd_u I 148 (upd (I 148) 0 0)) L c s)) rfl ?_ (by omega)
          refine dd_Rn.ci (fun j0 => (13, [.ref 148, .int a1, .int a2], [.int j0, .ref 149], sM Ln (dd_u I 148 (upd (I 148) 0 0)) L c s)) (fun j0 => (14, [.ref 148, .int a1, .int a2], [.int (I 149 (tn j0))], sM Ln (dd_u I 148 (upd (I 148) 0 0)) L c s)) (fun j0 => 0 ≤ j0 ∧ tn j0 < 2220) (((222 : Int32) + ((5 : Int32) * a1)) + a2) (fun j0 hc h => dd_Rn.chk 0 (c := 0 ≤ j0 ∧ tn j0 < 2220) (A := (14, [.ref 148, .int a1, .int a2], [.int (I 149 (tn j0))], sM Ln (dd_u I 148 (upd (I 148) 0 0)) L c s)) rfl hc h (by omega)) hc ?_
          refine dd_Rn.se (cf := (14, [.ref 148, .int a1, .int a2], [.int (I 149 (tn (((222 : Int32) + ((5 : Int32) * a1)) + a2)))], sM Ln (dd_u I 148 (upd (I 148) 0 0)) L c s)) ?_
          refine dd_Rn.retK 0 (pc := 14) (ls := [.ref 148, .int a1, .int a2]) (st := [.int (I 149 (tn (((222 : Int32) + ((5 : Int32) * a1)) + a2)))]) (M := sM Ln (dd_u I 148 (upd (I 148) 0 0)) L c s) (o := (none, .int (I 149 (tn (((222 : Int32) + ((5 : Int32) * a1)) + a2))), sM Ln (dd_u I 148 (upd (I 148) 0 0)) L c s)) rfl rfl (dd_Af.ret rfl ?_) (by omega)
          show dd_Rn (e + 16) m_X11_log (52, [.ref 148, .int a1, .int a2], [.int (I 149 (tn (((222 : Int32) + ((5 : Int32) * a1)) + a2)))], sM Ln (dd_u I 148 (upd (I 148) 0 0)) L c s) _
          exact dd_Rn.retK 1 (pc := 56) (ls := [.ref 148, .int a1, .int a2]) (st := [.int (I 149 (tn (((222 : Int32) + ((5 : Int32) * a1)) + a2)))]) (M := sM Ln (dd_u I 148 (upd (I 148) 0 0)) L c s) (o := (none, .int (I 149 (tn (((222 : Int32) + ((5 : Int32) * a1)) + a2))), sM Ln (dd_u I 148 (upd (I 148) 0 0)) L c s)) rfl rfl h (by omega)

theorem w_X11_seed_0 {Ln d c s : Nat} {I : Nat → Nat → Int32} {L : Nat → Nat → Int64} {Q : dd_O → Prop} {a1 : Int32} (hd : 28 ≤ d) (h : Q (none, .int (I 149 10), sM Ln (dd_u (dd_u I 148 (upd (I 148) 0 0)) 149 (upd (I 149) 10 a1)) L c s)) : dd_Ev d m_X11_seed [.ref 148, .int a1] (sM Ln I L c s) Q := by
  obtain ⟨e, rfl⟩ : ∃ e, d = e + 16 := ⟨d - 16, by omega⟩
  show dd_Rn (e + 16) m_X11_seed (0, [.ref 148, .int a1, .null], [], sM Ln I L c s) Q
  exact dd_Rn.retK 14 (pc := 22) (ls := [.ref 148, .int a1, .int (I 149 10)]) (st := [.int (I 149 10)]) (M := sM Ln (dd_u (dd_u I 148 (upd (I 148) 0 0)) 149 (upd (I 149) 10 a1)) L c s) (o := (none, .int (I 149 10), sM Ln (dd_u (dd_u I 148 (upd (I 148) 0 0)) 149 (upd (I 149) 10 a1)) L c s)) rfl rfl h (by omega)

theorem w_X11_count_0 {Ln d c s : Nat} {I : Nat → Nat → Int32} {L : Nat → Nat → Int64} {Q : dd_O → Prop} {a1 : Int32} (hd : 28 ≤ d) (h : ((Int32.toInt a1 < 3 ∨ 12 < Int32.toInt a1 → ((a1 < 0 → dd_Rn d m_X11_count (128, [.ref 148, .int a1], [.int (-1)], sM Ln (dd_u I 148 (upd (I 148) 0 0)) L c s) Q) ∧ (¬ (a1 < 0) → (((8 : Int32) < a1 → dd_Rn d m_X11_count (128, [.ref 148, .int a1], [.int (-1)], sM Ln (dd_u I 148 (upd (I 148) 0 0)) L c s) Q) ∧ (¬ ((8 : Int32) < a1) → ((0 ≤ a1 ∧ tn a1 < 2220) ∧ dd_Rn d m_X11_count (128, [.ref 148, .int a1], [.int (I 149 (tn a1))], sM Ln (dd_u I 148 (upd (I 148) 0 0)) L c s) Q)))))) ∧ (a1 = 3 → ((I 149 3 = 1 → dd_Rn d m_X11_count (82, [.ref 148, .int a1], [.int (I 149 522)], sM Ln (dd_u I 148 (upd (I 148) 0 0)) L c s) Q) ∧ (¬ (I 149 3 = 1) → dd_Rn d m_X11_count (82, [.ref 148, .int a1], [.int (-1)], sM Ln (dd_u I 148 (upd (I 148) 0 0)) L c s) Q))) ∧ (a1 = 4 → ((a1 < 0 → dd_Rn d m_X11_count (128, [.ref 148, .int a1], [.int (-1)], sM Ln (dd_u I 148 (upd (I 148) 0 0)) L c s) Q) ∧ (¬ (a1 < 0) → (((8 : Int32) < a1 → dd_Rn d m_X11_count (128, [.ref 148, .int a1], [.int (-1)], sM Ln (dd_u I 148 (upd (I 148) 0 0)) L c s) Q) ∧ (¬ ((8 : Int32) < a1) → ((0 ≤ a1 ∧ tn a1 < 2220) ∧ dd_Rn d m_X11_count (128, [.ref 148, .int a1], [.int (I 149 (tn a1))], sM Ln (dd_u I 148 (upd (I 148) 0 0)) L c s) Q)))))) ∧ (a1 = 5 → ((a1 < 0 → dd_Rn d m_X11_count (128, [.ref 148, .int a1], [.int (-1)], sM Ln (dd_u I 148 (upd (I 148) 0 0)) L c s) Q) ∧ (¬ (a1 < 0) → (((8 : Int32) < a1 → dd_Rn d m_X11_count (128, [.ref 148, .int a1], [.int (-1)], sM Ln (dd_u I 148 (upd (I 148) 0 0)) L c s) Q) ∧ (¬ ((8 : Int32) < a1) → ((0 ≤ a1 ∧ tn a1 < 2220) ∧ dd_Rn d m_X11_count (128, [.ref 148, .int a1], [.int (I 149 (tn a1))], sM Ln (dd_u I 148 (upd (I 148) 0 0)) L c s) Q)))))) ∧ (a1 = 6 → ((a1 < 0 → dd_Rn d m_X11_count (128, [.ref 148, .int a1], [.int (-1)], sM Ln (dd_u I 148 (upd (I 148) 0 0)) L c s) Q) ∧ (¬ (a1 < 0) → (((8 : Int32) < a1 → dd_Rn d m_X11_count (128, [.ref 148, .int a1], [.int (-1)], sM Ln (dd_u I 148 (upd (I 148) 0 0)) L c s) Q) ∧ (¬ ((8 : Int32) < a1) → ((0 ≤ a1 ∧ tn a1 < 2220) ∧ dd_Rn d m_X11_count (128, [.ref 148, .int a1], [.int (I 149 (tn a1))], sM Ln (dd_u I 148 (upd (I 148) 0 0)) L c s) Q)))))) ∧ (a1 = 7 → ((a1 < 0 → dd_Rn d m_X11_count (128, [.ref 148, .int a1], [.int (-1)], sM Ln (dd_u I 148 (upd (I 148) 0 0)) L c s) Q) ∧ (¬ (a1 < 0) → (((8 : Int32) < a1 → dd_Rn d m_X11_count (128, [.ref 148, .int a1], [.int (-1)], sM Ln (dd_u I 148 (upd (I 148) 0 0)) L c s) Q) ∧ (¬ ((8 : Int32) < a1) → ((0 ≤ a1 ∧ tn a1 < 2220) ∧ dd_Rn d m_X11_count (128, [.ref 148, .int a1], [.int (I 149 (tn a1))], sM Ln (dd_u I 148 (upd (I 148) 0 0)) L c s) Q)))))) ∧ (a1 = 8 → ((a1 < 0 → dd_Rn d m_X11_count (128, [.ref 148, .int a1], [.int (-1)], sM Ln (dd_u I 148 (upd (I 148) 0 0)) L c s) Q) ∧ (¬ (a1 < 0) → (((8 : Int32) < a1 → dd_Rn d m_X11_count (128, [.ref 148, .int a1], [.int (-1)], sM Ln (dd_u I 148 (upd (I 148) 0 0)) L c s) Q) ∧ (¬ ((8 : Int32) < a1) → ((0 ≤ a1 ∧ tn a1 < 2220) ∧ dd_Rn d m_X11_count (128, [.ref 148, .int a1], [.int (I 149 (tn a1))], sM Ln (dd_u I 148 (upd (I 148) 0 0)) L c s) Q)))))) ∧ (a1 = 9 → dd_Ev (d - 1) m_X11_sumOfCells [.ref 148, .int 75] (sM Ln (dd_u I 148 (upd (I 148) 0 0)) L c s) (dd_RI Ln c s (fun x1 I1 L1 => Q (none, .int x1, sM Ln I1 L1 c s)))) ∧ (a1 = 10 → dd_Ev (d - 1) m_X11_inOnes [.ref 148] (sM Ln (dd_u I 148 (upd (I 148) 0 0)) L c s) (dd_RI Ln c s (fun x2 I2 L2 => Q (none, .int x2, sM Ln I2 L2 c s)))) ∧ (a1 = 11 → Q (none, .int (I 149 9), sM Ln (dd_u I 148 (upd (I 148) 0 0)) L c s)) ∧ (a1 = 12 → Q (none, .int (I 148 7), sM Ln (dd_u I 148 (upd (I 148) 0 0)) L c s)))) : dd_Ev d m_X11_count [.ref 148, .int a1] (sM Ln I L c s) Q := by
  obtain ⟨e, rfl⟩ : ∃ e, d = e + 16 := ⟨d - 16, by omega⟩
  show dd_Rn (e + 16) m_X11_count (0, [.ref 148, .int a1], [], sM Ln I L c s) Q
  refine dd_Rn.go 4 (cf' := (6, [.ref 148, .int a1], [.int a1], sM Ln (dd_u I 148 (upd (I 148) 0 0)) L c s)) rfl ?_ (by omega)
  by_cases hs : Int32.toInt a1 < 3 ∨ 12 < Int32.toInt a1
  · have h := h.1 hs
    refine dd_Rn.pos 0 (c := Int32.toInt a1 < 3 ∨ 12 < Int32.toInt a1) (A := (108, [.ref 148, .int a1], [], sM Ln (dd_u I 148 (upd (I 148) 0 0)) L c s)) rfl hs ?_ (by omega)
    refine dd_Rn.sub 3 (pc := 112) (ls := [.ref 148, .int a1]) (st := [.int 8, .int 0, .int a1]) (M := sM Ln (dd_u I 148 (upd (I 148) 0 0)) L c s) (x := m_X11_in) (as := [.int a1, .int 0, .int 8]) (rest := []) rfl rfl rfl rfl ?_
    show dd_Rn (e + 15) m_X11_in (0, [.int a1, .int 0, .int 8], [], sM Ln (dd_u I 148 (upd (I 148) 0 0)) L c s) _
    refine dd_Rn.ite 2 (c := a1 < 0) (A := (14, [.int a1, .int 0, .int 8], [], sM Ln (dd_u I 148 (upd (I 148) 0 0)) L c s)) (B := (5, [.int a1, .int 0, .int 8], [], sM Ln (dd_u I 148 (upd (I 148) 0 0)) L c s)) rfl (fun hc => ?_) (fun hc => ?_) (by omega)
    · have h := h.1 hc
      refine dd_Rn.retK 1 (pc := 15) (ls := [.int a1, .int 0, .int 8]) (st := [.int 0]) (M := sM Ln (dd_u I 148 (upd (I 148) 0 0)) L c s) (o := (none, .int 0, sM Ln (dd_u I 148 (upd (I 148) 0 0)) L c s)) rfl rfl (dd_Af.ret rfl ?_) (by omega)
      show dd_Rn (e + 16) m_X11_count (115, [.ref 148, .int a1], [.int 0], sM Ln (dd_u I 148 (upd (I 148) 0 0)) L c s) _
      exact dd_Rn.go 2 (cf' := (128, [.ref 148, .int a1], [.int (-1)], sM Ln (dd_u I 148 (upd (I 148) 0 0)) L c s)) rfl h (by omega)
    · have h := h.2 hc
      refine dd_Rn.ite 2 (c := (8 : Int32) < a1) (A := (14, [.int a1, .int 0, .int 8], [], sM Ln (dd_u I 148 (upd (I 148) 0 0)) L c s)) (B := (10, [.int a1, .int 0, .int 8], [], sM Ln (dd_u I 148 (upd (I 148) 0 0)) L c s)) rfl (fun hc => ?_) (fun hc => ?_) (by omega)
      · have h := h.1 hc
        refine dd_Rn.retK 1 (pc := 15) (ls := [.int a1, .int 0, .int 8]) (st := [.int 0]) (M := sM Ln (dd_u I 148 (upd (I 148) 0 0)) L c s) (o := (none, .int 0, sM Ln (dd_u I 148 (upd (I 148) 0 0)) L c s)) rfl rfl (dd_Af.ret rfl ?_) (by omega)
        show dd_Rn (e + 16) m_X11_count (115, [.ref 148, .int a1], [.int 0], sM Ln (dd_u I 148 (upd (I 148) 0 0)) L c s) _
        exact dd_Rn.go 2 (cf' := (128, [.ref 148, .int a1], [.int (-1)], sM Ln (dd_u I 148 (upd (I 148) 0 0)) L c s)) rfl h (by omega)
      · have h := h.2 hc
        refine dd_Rn.retK 2 (pc := 15) (ls := [.int a1, .int 0, .int 8]) (st := [.int 1]) (M := sM Ln (dd_u I 148 (upd (I 148) 0 0)) L c s) (o := (none, .int 1, sM Ln (dd_u I 148 (upd (I 148) 0 0)) L c s)) rfl rfl (dd_Af.ret rfl ?_) (by omega)
        show dd_Rn (e + 16) m_X11_count (115, [.ref 148, .int a1], [.int 1], sM Ln (dd_u I 148 (upd (I 148) 0 0)) L c s) _
        obtain ⟨hc, h⟩ := h
        refine dd_Rn.chk 4 (c := 0 ≤ a1 ∧ tn a1 < 2220) (A := (124, [.ref 148, .int a1], [.int (I 149 (tn a1))], sM Ln (dd_u I 148 (upd (I 148) 0 0)) L c s)) rfl hc ?_ (by omega)
        exact dd_Rn.go 1 (cf' := (128, [.ref 148, .int a1], [.int (I 149 (tn a1))], sM Ln (dd_u I 148 (upd (I 148) 0 0)) L c s)) rfl h (by omega)
  have h := h.2
  have hs : Int32.toInt a1 = 3 ∨ Int32.toInt a1 = 4 ∨ Int32.toInt a1 = 5 ∨ Int32.toInt a1 = 6 ∨ Int32.toInt a1 = 7 ∨ Int32.toInt a1 = 8 ∨ Int32.toInt a1 = 9 ∨ Int32.toInt a1 = 10 ∨ Int32.toInt a1 = 11 ∨ Int32.toInt a1 = 12 := by omega
  rcases hs with hs | hs
  · have hv : a1 = 3 := Int32.toInt_inj.mp (by rw [hs]; rfl)
    have h := h.1 hv
    refine dd_Rn.lit hv ?_
    refine dd_Rn.go 1 (cf' := (60, [.ref 148, .int a1], [], sM Ln (dd_u I 148 (upd (I 148) 0 0)) L c s)) rfl ?_ (by omega)
    refine dd_Rn.ite 5 (c := I 149 3 = 1) (A := (70, [.ref 148, .int a1], [], sM Ln (dd_u I 148 (upd (I 148) 0 0)) L c s)) (B := (81, [.ref 148, .int a1], [], sM Ln (dd_u I 148 (upd (I 148) 0 0)) L c s)) rfl (fun hc => ?_) (fun hc => ?_) (by omega)
    · have h := h.1 hc
      exact dd_Rn.go 5 (cf' := (82, [.ref 148, .int a1], [.int (I 149 522)], sM Ln (dd_u I 148 (upd (I 148) 0 0)) L c s)) rfl h (by omega)
    · have h := h.2 hc
      exact dd_Rn.go 1 (cf' := (82, [.ref 148, .int a1], [.int (-1)], sM Ln (dd_u I 148 (upd (I 148) 0 0)) L c s)) rfl h (by omega)
  have h := h.2
  rcases hs with hs | hs
  · have hv : a1 = 4 := Int32.toInt_inj.mp (by rw [hs]; rfl)
    have h := h.1 hv
    refine dd_Rn.lit hv ?_
    refine dd_Rn.go 1 (cf' := (108, [.ref 148, .int a1], [], sM Ln (dd_u I 148 (upd (I 148) 0 0)) L c s)) rfl ?_ (by omega)
    refine dd_Rn.sub 3 (pc := 112) (ls := [.ref 148, .int a1]) (st := [.int 8, .int 0, .int a1]) (M := sM Ln (dd_u I 148 (upd (I 148) 0 0)) L c s) (x := m_X11_in) (as := [.int a1, .int 0, .int 8]) (rest := []) rfl rfl rfl rfl ?_
    show dd_Rn (e + 15) m_X11_in (0, [.int a1, .int 0, .int 8], [], sM Ln (dd_u I 148 (upd (I 148) 0 0)) L c s) _
    refine dd_Rn.ite 2 (c := a1 < 0) (A := (14, [.int a1, .int 0, .int 8], [], sM Ln (dd_u I 148 (upd (I 148) 0 0)) L c s)) (B := (5, [.int a1, .int 0, .int 8], [], sM Ln (dd_u I 148 (upd (I 148) 0 0)) L c s)) rfl (fun hc => ?_) (fun hc => ?_) (by omega)
    · have h := h.1 hc
      refine dd_Rn.retK 1 (pc := 15) (ls := [.int a1, .int 0, .int 8]) (st := [.int 0]) (M := sM Ln (dd_u I 148 (upd (I 148) 0 0)) L c s) (o := (none, .int 0, sM Ln (dd_u I 148 (upd (I 148) 0 0)) L c s)) rfl rfl (dd_Af.ret rfl ?_) (by omega)
      show dd_Rn (e + 16) m_X11_count (115, [.ref 148, .int a1], [.int 0], sM Ln (dd_u I 148 (upd (I 148) 0 0)) L c s) _
      exact dd_Rn.go 2 (cf' := (128, [.ref 148, .int a1], [.int (-1)], sM Ln (dd_u I 148 (upd (I 148) 0 0)) L c s)) rfl h (by omega)
    · have h := h.2 hc
      refine dd_Rn.ite 2 (c := (8 : Int32) < a1) (A := (14, [.int a1, .int 0, .int 8], [], sM Ln (dd_u I 148 (upd (I 148) 0 0)) L c s)) (B := (10, [.int a1, .int 0, .int 8], [], sM Ln (dd_u I 148 (upd (I 148) 0 0)) L c s)) rfl (fun hc => ?_) (fun hc => ?_) (by omega)
      · have h := h.1 hc
        refine dd_Rn.retK 1 (pc := 15) (ls := [.int a1, .int 0, .int 8]) (st := [.int 0]) (M := sM Ln (dd_u I 148 (upd (I 148) 0 0)) L c s) (o := (none, .int 0, sM Ln (dd_u I 148 (upd (I 148) 0 0)) L c s)) rfl rfl (dd_Af.ret rfl ?_) (by omega)
        show dd_Rn (e + 16) m_X11_count (115, [.ref 148, .int a1], [.int 0], sM Ln (dd_u I 148 (upd (I 148) 0 0)) L c s) _
        exact dd_Rn.go 2 (cf' := (128, [.ref 148, .int a1], [.int (-1)], sM Ln (dd_u I 148 (upd (I 148) 0 0)) L c s)) rfl h (by omega)
      · have h := h.2 hc
        refine dd_Rn.retK 2 (pc := 15) (ls := [.int a1, .int 0, .int 8]) (st := [.int 1]) (M := sM Ln (dd_u I 148 (upd (I 148) 0 0)) L c s) (o := (none, .int 1, sM Ln (dd_u I 148 (upd (I 148) 0 0)) L c s)) rfl rfl (dd_Af.ret rfl ?_) (by omega)
        show dd_Rn (e + 16) m_X11_count (115, [.ref 148, .int a1], [.int 1], sM Ln (dd_u I 148 (upd (I 148) 0 0)) L c s) _
        obtain ⟨hc, h⟩ := h
        refine dd_Rn.chk 4 (c := 0 ≤ a1 ∧ tn a1 < 2220) (A := (124, [.ref 148, .int a1], [.int (I 149 (tn a1))], sM Ln (dd_u I 148 (upd (I 148) 0 0)) L c s)) rfl hc ?_ (by omega)
        exact dd_Rn.go 1 (cf' := (128, [.ref 148, .int a1], [.int (I 149 (tn a1))], sM Ln (dd_u I 148 (upd (I 148) 0 0)) L c s)) rfl h (by omega)
  have h := h.2
  rcases hs with hs | hs
  · have hv : a1 = 5 := Int32.toInt_inj.mp (by rw [hs]; rfl)
    have h := h.1 hv
    refine dd_Rn.lit hv ?_
    refine dd_Rn.go 1 (cf' := (108, [.ref 148, .int a1], [], sM Ln (dd_u I 148 (upd (I 148) 0 0)) L c s)) rfl ?_ (by omega)
    refine dd_Rn.sub 3 (pc := 112) (ls := [.ref 148, .int a1]) (st := [.int 8, .int 0, .int a1]) (M := sM Ln (dd_u I 148 (upd (I 148) 0 0)) L c s) (x := m_X11_in) (as := [.int a1, .int 0, .int 8]) (rest := []) rfl rfl rfl rfl ?_
    show dd_Rn (e + 15) m_X11_in (0, [.int a1, .int 0, .int 8], [], sM Ln (dd_u I 148 (upd (I 148) 0 0)) L c s) _
    refine dd_Rn.ite 2 (c := a1 < 0) (A := (14, [.int a1, .int 0, .int 8], [], sM Ln (dd_u I 148 (upd (I 148) 0 0)) L c s)) (B := (5, [.int a1, .int 0, .int 8], [], sM Ln (dd_u I 148 (upd (I 148) 0 0)) L c s)) rfl (fun hc => ?_) (fun hc => ?_) (by omega)
    · have h := h.1 hc
      refine dd_Rn.retK 1 (pc := 15) (ls := [.int a1, .int 0, .int 8]) (st := [.int 0]) (M := sM Ln (dd_u I 148 (upd (I 148) 0 0)) L c s) (o := (none, .int 0, sM Ln (dd_u I 148 (upd (I 148) 0 0)) L c s)) rfl rfl (dd_Af.ret rfl ?_) (by omega)
      show dd_Rn (e + 16) m_X11_count (115, [.ref 148, .int a1], [.int 0], sM Ln (dd_u I 148 (upd (I 148) 0 0)) L c s) _
      exact dd_Rn.go 2 (cf' := (128, [.ref 148, .int a1], [.int (-1)], sM Ln (dd_u I 148 (upd (I 148) 0 0)) L c s)) rfl h (by omega)
    · have h := h.2 hc
      refine dd_Rn.ite 2 (c := (8 : Int32) < a1) (A := (14, [.int a1, .int 0, .int 8], [], sM Ln (dd_u I 148 (upd (I 148) 0 0)) L c s)) (B := (10, [.int a1, .int 0, .int 8], [], sM Ln (dd_u I 148 (upd (I 148) 0 0)) L c s)) rfl (fun hc => ?_) (fun hc => ?_) (by omega)
      · have h := h.1 hc
        refine dd_Rn.retK 1 (pc := 15) (ls := [.int a1, .int 0, .int 8]) (st := [.int 0]) (M := sM Ln (dd_u I 148 (upd (I 148) 0 0)) L c s) (o := (none, .int 0, sM Ln (dd_u I 148 (upd (I 148) 0 0)) L c s)) rfl rfl (dd_Af.ret rfl ?_) (by omega)
        show dd_Rn (e + 16) m_X11_count (115, [.ref 148, .int a1], [.int 0], sM Ln (dd_u I 148 (upd (I 148) 0 0)) L c s) _
        exact dd_Rn.go 2 (cf' := (128, [.ref 148, .int a1], [.int (-1)], sM Ln (dd_u I 148 (upd (I 148) 0 0)) L c s)) rfl h (by omega)
      · have h := h.2 hc
        refine dd_Rn.retK 2 (pc := 15) (ls := [.int a1, .int 0, .int 8]) (st := [.int 1]) (M := sM Ln (dd_u I 148 (upd (I 148) 0 0)) L c s) (o := (none, .int 1, sM Ln (dd_u I 148 (upd (I 148) 0 0)) L c s)) rfl rfl (dd_Af.ret rfl ?_) (by omega)
        show dd_Rn (e + 16) m_X11_count (115, [.ref 148, .int a1], [.int 1], sM Ln (dd_u I 148 (upd (I 148) 0 0)) L c s) _
        obtain ⟨hc, h⟩ := h
        refine dd_Rn.chk 4 (c := 0 ≤ a1 ∧ tn a1 < 2220) (A := (124, [.ref 148, .int a1], [.int (I 149 (tn a1))], sM Ln (dd_u I 148 (upd (I 148) 0 0)) L c s)) rfl hc ?_ (by omega)
        exact dd_Rn.go 1 (cf' := (128, [.ref 148, .int a1], [.int (I 149 (tn a1))], sM Ln (dd_u I 148 (upd (I 148) 0 0)) L c s)) rfl h (by omega)
  have h := h.2
  rcases hs with hs | hs
  · have hv : a1 = 6 := Int32.toInt_inj.mp (by rw [hs]; rfl)
    have h := h.1 hv
    refine dd_Rn.lit hv ?_
    refine dd_Rn.go 1 (cf' := (108, [.ref 148, .int a1], [], sM Ln (dd_u I 148 (upd (I 148) 0 0)) L c s)) rfl ?_ (by omega)
    refine dd_Rn.sub 3 (pc := 112) (ls := [.ref 148, .int a1]) (st := [.int 8, .int 0, .int a1]) (M := sM Ln (dd_u I 148 (upd (I 148) 0 0)) L c s) (x := m_X11_in) (as := [.int a1, .int 0, .int 8]) (rest := []) rfl rfl rfl rfl ?_
    show dd_Rn (e + 15) m_X11_in (0, [.int a1, .int 0, .int 8], [], sM Ln (dd_u I 148 (upd (I 148) 0 0)) L c s) _
    refine dd_Rn.ite 2 (c := a1 < 0) (A := (14, [.int a1, .int 0, .int 8], [], sM Ln (dd_u I 148 (upd (I 148) 0 0)) L c s)) (B := (5, [.int a1, .int 0, .int 8], [], sM Ln (dd_u I 148 (upd (I 148) 0 0)) L c s)) rfl (fun hc => ?_) (fun hc => ?_) (by omega)
    · have h := h.1 hc
      refine dd_Rn.retK 1 (pc := 15) (ls := [.int a1, .int 0, .int 8]) (st := [.int 0]) (M := sM Ln (dd_u I 148 (upd (I 148) 0 0)) L c s) (o := (none, .int 0, sM Ln (dd_u I 148 (upd (I 148) 0 0)) L c s)) rfl rfl (dd_Af.ret rfl ?_) (by omega)
      show dd_Rn (e + 16) m_X11_count (115, [.ref 148, .int a1], [.int 0], sM Ln (dd_u I 148 (upd (I 148) 0 0)) L c s) _
      exact dd_Rn.go 2 (cf' := (128, [.ref 148, .int a1], [.int (-1)], sM Ln (dd_u I 148 (upd (I 148) 0 0)) L c s)) rfl h (by omega)
    · have h := h.2 hc
      refine dd_Rn.ite 2 (c := (8 : Int32) < a1) (A := (14, [.int a1, .int 0, .int 8], [], sM Ln (dd_u I 148 (upd (I 148) 0 0)) L c s)) (B := (10, [.int a1, .int 0, .int 8], [], sM Ln (dd_u I 148 (upd (I 148) 0 0)) L c s)) rfl (fun hc => ?_) (fun hc => ?_) (by omega)
      · have h := h.1 hc
        refine dd_Rn.retK 1 (pc := 15) (ls := [.int a1, .int 0, .int 8]) (st := [.int 0]) (M := sM Ln (dd_u I 148 (upd (I 148) 0 0)) L c s) (o := (none, .int 0, sM Ln (dd_u I 148 (upd (I 148) 0 0)) L c s)) rfl rfl (dd_Af.ret rfl ?_) (by omega)
        show dd_Rn (e + 16) m_X11_count (115, [.ref 148, .int a1], [.int 0], sM Ln (dd_u I 148 (upd (I 148) 0 0)) L c s) _
        exact dd_Rn.go 2 (cf' := (128, [.ref 148, .int a1], [.int (-1)], sM Ln (dd_u I 148 (upd (I 148) 0 0)) L c s)) rfl h (by omega)
      · have h := h.2 hc
        refine dd_Rn.retK 2 (pc := 15) (ls := [.int a1, .int 0, .int 8]) (st := [.int 1]) (M := sM Ln (dd_u I 148 (upd (I 148) 0 0)) L c s) (o := (none, .int 1, sM Ln (dd_u I 148 (upd (I 148) 0 0)) L c s)) rfl rfl (dd_Af.ret rfl ?_) (by omega)
        show dd_Rn (e + 16) m_X11_count (115, [.ref 148, .int a1], [.int 1], sM Ln (dd_u I 148 (upd (I 148) 0 0)) L c s) _
        obtain ⟨hc, h⟩ := h
        refine dd_Rn.chk 4 (c := 0 ≤ a1 ∧ tn a1 < 2220) (A := (124, [.ref 148, .int a1], [.int (I 149 (tn a1))], sM Ln (dd_u I 148 (upd (I 148) 0 0)) L c s)) rfl hc ?_ (by omega)
        exact dd_Rn.go 1 (cf' := (128, [.ref 148, .int a1], [.int (I 149 (tn a1))], sM Ln (dd_u I 148 (upd (I 148) 0 0)) L c s)) rfl h (by omega)
  have h := h.2
  rcases hs with hs | hs
  · have hv : a1 = 7 := Int32.toInt_inj.mp (by rw [hs]; rfl)
    have h := h.1 hv
    refine dd_Rn.lit hv ?_
    refine dd_Rn.go 1 (cf' := (108, [.ref 148, .int a1], [], sM Ln (dd_u I 148 (upd (I 148) 0 0)) L c s)) rfl ?_ (by omega)
    refine dd_Rn.sub 3 (pc := 112) (ls := [.ref 148, .int a1]) (st := [.int 8, .int 0, .int a1]) (M := sM Ln (dd_u I 148 (upd (I 148) 0 0)) L c s) (x := m_X11_in) (as := [.int a1, .int 0, .int 8]) (rest := []) rfl rfl rfl rfl ?_
    show dd_Rn (e + 15) m_X11_in (0, [.int a1, .int 0, .int 8], [], sM Ln (dd_u I 148 (upd (I 148) 0 0)) L c s) _
    refine dd_Rn.ite 2 (c := a1 < 0) (A := (14, [.int a1, .int 0, .int 8], [], sM Ln (dd_u I 148 (upd (I 148) 0 0)) L c s)) (B := (5, [.int a1, .int 0, .int 8], [], sM Ln (dd_u I 148 (upd (I 148) 0 0)) L c s)) rfl (fun hc => ?_) (fun hc => ?_) (by omega)
    · have h := h.1 hc
      refine dd_Rn.retK 1 (pc := 15) (ls := [.int a1, .int 0, .int 8]) (st := [.int 0]) (M := sM Ln (dd_u I 148 (upd (I 148) 0 0)) L c s) (o := (none, .int 0, sM Ln (dd_u I 148 (upd (I 148) 0 0)) L c s)) rfl rfl (dd_Af.ret rfl ?_) (by omega)
      show dd_Rn (e + 16) m_X11_count (115, [.ref 148, .int a1], [.int 0], sM Ln (dd_u I 148 (upd (I 148) 0 0)) L c s) _
      exact dd_Rn.go 2 (cf' := (128, [.ref 148, .int a1], [.int (-1)], sM Ln (dd_u I 148 (upd (I 148) 0 0)) L c s)) rfl h (by omega)
    · have h := h.2 hc
      refine dd_Rn.ite 2 (c := (8 : Int32) < a1) (A := (14, [.int a1, .int 0, .int 8], [], sM Ln (dd_u I 148 (upd (I 148) 0 0)) L c s)) (B := (10, [.int a1, .int 0, .int 8], [], sM Ln (dd_u I 148 (upd (I 148) 0 0)) L c s)) rfl (fun hc => ?_) (fun hc => ?_) (by omega)
      · have h := h.1 hc
        refine dd_Rn.retK 1 (pc := 15) (ls := [.int a1, .int 0, .int 8]) (st := [.int 0]) (M := sM Ln (dd_u I 148 (upd (I 148) 0 0)) L c s) (o := (none, .int 0, sM Ln (dd_u I 148 (upd (I 148) 0 0)) L c s)) rfl rfl (dd_Af.ret rfl ?_) (by omega)
        show dd_Rn (e + 16) m_X11_count (115, [.ref 148, .int a1], [.int 0], sM Ln (dd_u I 148 (upd (I 148) 0 0)) L c s) _
        exact dd_Rn.go 2 (cf' := (128, [.ref 148, .int a1], [.int (-1)], sM Ln (dd_u I 148 (upd (I 148) 0 0)) L c s)) rfl h (by omega)
      · have h := h.2 hc
        refine dd_Rn.retK 2 (pc := 15) (ls := [.int a1, .int 0, .int 8]) (st := [.int 1]) (M := sM Ln (dd_u I 148 (upd (I 148) 0 0)) L c s) (o := (none, .int 1, sM Ln (dd_u I 148 (upd (I 148) 0 0)) L c s)) rfl rfl (dd_Af.ret rfl ?_) (by omega)
        show dd_Rn (e + 16) m_X11_count (115, [.ref 148, .int a1], [.int 1], sM Ln (dd_u I 148 (upd (I 148) 0 0)) L c s) _
        obtain ⟨hc, h⟩ := h
        refine dd_Rn.chk 4 (c := 0 ≤ a1 ∧ tn a1 < 2220) (A := (124, [.ref 148, .int a1], [.int (I 149 (tn a1))], sM Ln (dd_u I 148 (upd (I 148) 0 0)) L c s)) rfl hc ?_ (by omega)
        exact dd_Rn.go 1 (cf' := (128, [.ref 148, .int a1], [.int (I 149 (tn a1))], sM Ln (dd_u I 148 (upd (I 148) 0 0)) L c s)) rfl h (by omega)
  have h := h.2
  rcases hs with hs | hs
  · have hv : a1 = 8 := Int32.toInt_inj.mp (by rw [hs]; rfl)
    have h := h.1 hv
    refine dd_Rn.lit hv ?_
    refine dd_Rn.go 1 (cf' := (108, [.ref 148, .int a1], [], sM Ln (dd_u I 148 (upd (I 148) 0 0)) L c s)) rfl ?_ (by omega)
    refine dd_Rn.sub 3 (pc := 112) (ls := [.ref 148, .int a1]) (st := [.int 8, .int 0, .int a1]) (M := sM Ln (dd_u I 148 (upd (I 148) 0 0)) L c s) (x := m_X11_in) (as := [.int a1, .int 0, .int 8]) (rest := []) rfl rfl rfl rfl ?_
    show dd_Rn (e + 15) m_X11_in (0, [.int a1, .int 0, .int 8], [], sM Ln (dd_u I 148 (upd (I 148) 0 0)) L c s) _
    refine dd_Rn.ite 2 (c := a1 < 0) (A := (14, [.int a1, .int 0, .int 8], [], sM Ln (dd_u I 148 (upd (I 148) 0 0)) L c s)) (B := (5, [.int a1, .int 0, .int 8], [], sM Ln (dd_u I 148 (upd (I 148) 0 0)) L c s)) rfl (fun hc => ?_) (fun hc => ?_) (by omega)
    · have h := h.1 hc
      refine dd_Rn.retK 1 (pc := 15) (ls := [.int a1, .int 0, .int 8]) (st := [.int 0]) (M := sM Ln (dd_u I 148 (upd (I 148) 0 0)) L c s) (o := (none, .int 0, sM Ln (dd_u I 148 (upd (I 148) 0 0)) L c s)) rfl rfl (dd_Af.ret rfl ?_) (by omega)
      show dd_Rn (e + 16) m_X11_count (115, [.ref 148, .int a1], [.int 0], sM Ln (dd_u I 148 (upd (I 148) 0 0)) L c s) _
      exact dd_Rn.go 2 (cf' := (128, [.ref 148, .int a1], [.int (-1)], sM Ln (dd_u I 148 (upd (I 148) 0 0)) L c s)) rfl h (by omega)
    · have h := h.2 hc
      refine dd_Rn.ite 2 (c := (8 : Int32) < a1) (A := (14, [.int a1, .int 0, .int 8], [], sM Ln (dd_u I 148 (upd (I 148) 0 0)) L c s)) (B := (10, [.int a1, .int 0, .int 8], [], sM Ln (dd_u I 148 (upd (I 148) 0 0)) L c s)) rfl (fun hc => ?_) (fun hc => ?_) (by omega)
      · have h := h.1 hc
        refine dd_Rn.retK 1 (pc := 15) (ls := [.int a1, .int 0, .int 8]) (st := [.int 0]) (M := sM Ln (dd_u I 148 (upd (I 148) 0 0)) L c s) (o := (none, .int 0, sM Ln (dd_u I 148 (upd (I 148) 0 0)) L c s)) rfl rfl (dd_Af.ret rfl ?_) (by omega)
        show dd_Rn (e + 16) m_X11_count (115, [.ref 148, .int a1], [.int 0], sM Ln (dd_u I 148 (upd (I 148) 0 0)) L c s) _
        exact dd_Rn.go 2 (cf' := (128, [.ref 148, .int a1], [.int (-1)], sM Ln (dd_u I 148 (upd (I 148) 0 0)) L c s)) rfl h (by omega)
      · have h := h.2 hc
        refine dd_Rn.retK 2 (pc := 15) (ls := [.int a1, .int 0, .int 8]) (st := [.int 1]) (M := sM Ln (dd_u I 148 (upd (I 148) 0 0)) L c s) (o := (none, .int 1, sM Ln (dd_u I 148 (upd (I 148) 0 0)) L c s)) rfl rfl (dd_Af.ret rfl ?_) (by omega)
        show dd_Rn (e + 16) m_X11_count (115, [.ref 148, .int a1], [.int 1], sM Ln (dd_u I 148 (upd (I 148) 0 0)) L c s) _
        obtain ⟨hc, h⟩ := h
        refine dd_Rn.chk 4 (c := 0 ≤ a1 ∧ tn a1 < 2220) (A := (124, [.ref 148, .int a1], [.int (I 149 (tn a1))], sM Ln (dd_u I 148 (upd (I 148) 0 0)) L c s)) rfl hc ?_ (by omega)
        exact dd_Rn.go 1 (cf' := (128, [.ref 148, .int a1], [.int (I 149 (tn a1))], sM Ln (dd_u I 148 (upd (I 148) 0 0)) L c s)) rfl h (by omega)
  have h := h.2
  rcases hs with hs | hs
  · have hv : a1 = 9 := Int32.toInt_inj.mp (by rw [hs]; rfl)
    have h := h.1 hv
    refine dd_Rn.lit hv ?_
    refine dd_Rn.go 1 (cf' := (83, [.ref 148, .int a1], [], sM Ln (dd_u I 148 (upd (I 148) 0 0)) L c s)) rfl ?_ (by omega)
    refine dd_Rn.cI 2 (pc := 86) (ls := [.ref 148, .int a1]) (st := [.int 75, .ref 148]) (x := m_X11_sumOfCells) (as := [.ref 148, .int 75]) (rest := []) rfl rfl rfl rfl h ?_
    intro x1 I1 L1 h
    show dd_Rn (e + 16) m_X11_count (89, [.ref 148, .int a1], [.int x1], sM Ln I1 L1 c s) _
    exact dd_Rn.retK 0 (pc := 89) (ls := [.ref 148, .int a1]) (st := [.int x1]) (M := sM Ln I1 L1 c s) (o := (none, .int x1, sM Ln I1 L1 c s)) rfl rfl h (by omega)
  have h := h.2
  rcases hs with hs | hs
  · have hv : a1 = 10 := Int32.toInt_inj.mp (by rw [hs]; rfl)
    have h := h.1 hv
    refine dd_Rn.lit hv ?_
    refine dd_Rn.go 1 (cf' := (90, [.ref 148, .int a1], [], sM Ln (dd_u I 148 (upd (I 148) 0 0)) L c s)) rfl ?_ (by omega)
    refine dd_Rn.cI 1 (pc := 91) (ls := [.ref 148, .int a1]) (st := [.ref 148]) (x := m_X11_inOnes) (as := [.ref 148]) (rest := []) rfl rfl rfl rfl h ?_
    intro x2 I2 L2 h
    show dd_Rn (e + 16) m_X11_count (94, [.ref 148, .int a1], [.int x2], sM Ln I2 L2 c s) _
    exact dd_Rn.retK 0 (pc := 94) (ls := [.ref 148, .int a1]) (st := [.int x2]) (M := sM Ln I2 L2 c s) (o := (none, .int x2, sM Ln I2 L2 c s)) rfl rfl h (by omega)
  have h := h.2
  rcases hs with hs | hs
  · have hv : a1 = 11 := Int32.toInt_inj.mp (by rw [hs]; rfl)
    have h := h.1 hv
    refine dd_Rn.lit hv ?_
    refine dd_Rn.go 1 (cf' := (95, [.ref 148, .int a1], [], sM Ln (dd_u I 148 (upd (I 148) 0 0)) L c s)) rfl ?_ (by omega)
    exact dd_Rn.retK 4 (pc := 102) (ls := [.ref 148, .int a1]) (st := [.int (I 149 9)]) (M := sM Ln (dd_u I 148 (upd (I 148) 0 0)) L c s) (o := (none, .int (I 149 9), sM Ln (dd_u I 148 (upd (I 148) 0 0)) L c s)) rfl rfl h (by omega)
  have h := h.2
  · have hv : a1 = 12 := Int32.toInt_inj.mp (by rw [hs]; rfl)
    have h := h hv
    refine dd_Rn.lit hv ?_
    refine dd_Rn.go 1 (cf' := (103, [.ref 148, .int a1], [], sM Ln (dd_u I 148 (upd (I 148) 0 0)) L c s)) rfl ?_ (by omega)
    exact dd_Rn.retK 2 (pc := 107) (ls := [.ref 148, .int a1]) (st := [.int (I 148 7)]) (M := sM Ln (dd_u I 148 (upd (I 148) 0 0)) L c s) (o := (none, .int (I 148 7), sM Ln (dd_u I 148 (upd (I 148) 0 0)) L c s)) rfl rfl h (by omega)

theorem w_X11_count_82 {Ln d c s : Nat} {I : Nat → Nat → Int32} {L : Nat → Nat → Int64} {Q : dd_O → Prop} {a1 b0 : Int32} (hd : 28 ≤ d) (h : Q (none, .int b0, sM Ln I L c s)) : dd_Rn d m_X11_count (82, [.ref 148, .int a1], [.int b0], sM Ln I L c s) Q := by
  obtain ⟨e, rfl⟩ : ∃ e, d = e + 16 := ⟨d - 16, by omega⟩
  exact dd_Rn.retK 0 (pc := 82) (ls := [.ref 148, .int a1]) (st := [.int b0]) (M := sM Ln I L c s) (o := (none, .int b0, sM Ln I L c s)) rfl rfl h (by omega)

theorem w_X11_count_128 {Ln d c s : Nat} {I : Nat → Nat → Int32} {L : Nat → Nat → Int64} {Q : dd_O → Prop} {a1 b0 : Int32} (hd : 28 ≤ d) (h : Q (none, .int b0, sM Ln I L c s)) : dd_Rn d m_X11_count (128, [.ref 148, .int a1], [.int b0], sM Ln I L c s) Q := by
  obtain ⟨e, rfl⟩ : ∃ e, d = e + 16 := ⟨d - 16, by omega⟩
  exact dd_Rn.retK 0 (pc := 128) (ls := [.ref 148, .int a1]) (st := [.int b0]) (M := sM Ln I L c s) (o := (none, .int b0, sM Ln I L c s)) rfl rfl h (by omega)
