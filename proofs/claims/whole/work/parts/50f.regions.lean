/-! Region lemmas, written by program (gen/regions_all.py) -/
theorem w_X11_sooner_0 {Ln d c s : Nat} {I : Nat → Nat → Int32} {L : Nat → Nat → Int64} {Q : dd_O → Prop} (hd : 28 ≤ d) (h : dd_Rn d m_X11_sooner (12, [.ref 148, .int (-1), .int 101, .int 0, .null], [], sM Ln (dd_u I 148 (upd (I 148) 0 0)) L c s) Q) : dd_Ev d m_X11_sooner [.ref 148] (sM Ln I L c s) Q := by
  obtain ⟨e, rfl⟩ : ∃ e, d = e + 16 := ⟨d - 16, by omega⟩
  show dd_Rn (e + 16) m_X11_sooner (0, [.ref 148, .null, .null, .null, .null], [], sM Ln I L c s) Q
  exact dd_Rn.go 9 (cf' := (12, [.ref 148, .int (-1), .int 101, .int 0, .null], [], sM Ln (dd_u I 148 (upd (I 148) 0 0)) L c s)) rfl h (by omega)

theorem w_X11_sooner_12 {Ln d c s : Nat} {I : Nat → Nat → Int32} {L : Nat → Nat → Int64} {Q : dd_O → Prop} {a1 a2 a3 : Int32} {a4 : Value} (hd : 28 ≤ d) (h : ((I 149 1 ≤ a3 → Q (none, .int a1, sM Ln I L c s)) ∧ (¬ (I 149 1 ≤ a3) → ((0 ≤ ((187 : Int32) + ((5 : Int32) * a3)) + 3 ∧ tn (((187 : Int32) + ((5 : Int32) * a3)) + 3) < 2220) ∧ ((I 149 (tn (((187 : Int32) + ((5 : Int32) * a3)) + 3)) = 1 → dd_Rn d m_X11_sooner (12, [.ref 148, .int a1, .int a2, .int (a3 + 1), a4], [], sM Ln I L c s) Q) ∧ (¬ (I 149 (tn (((187 : Int32) + ((5 : Int32) * a3)) + 3)) = 1) → dd_Ev (d - 1) m_X11_keepsAll [.ref 148] (sM Ln I L c s) (dd_RV Ln c s (fun I1 L1 => dd_Ev (d - 1) m_X11_soonFor [.ref 148, .int ((1 : Int32) <<< (a3 &&& 31))] (sM Ln (dd_u I1 149 (upd (I1 149) 5 15)) L1 c s) (dd_RI Ln c s (fun x2 I2 L2 => ((a2 ≤ x2 → dd_Rn d m_X11_sooner (12, [.ref 148, .int a1, .int (if x2 < a2 then x2 else a2), .int (a3 + 1), .int x2], [], sM Ln I2 L2 c s) Q) ∧ (¬ (a2 ≤ x2) → dd_Rn d m_X11_sooner (12, [.ref 148, .int a3, .int (if x2 < a2 then x2 else a2), .int (a3 + 1), .int x2], [], sM Ln I2 L2 c s) Q)))))))))))) : dd_Rn d m_X11_sooner (12, [.ref 148, .int a1, .int a2, .int a3, a4], [], sM Ln I L c s) Q := by
  obtain ⟨e, rfl⟩ : ∃ e, d = e + 16 := ⟨d - 16, by omega⟩
  refine dd_Rn.sub 2 (pc := 14) (ls := [.ref 148, .int a1, .int a2, .int a3, a4]) (st := [.ref 148, .int a3]) (M := sM Ln I L c s) (x := m_X11_boys) (as := [.ref 148]) (rest := [.int a3]) rfl rfl rfl rfl ?_
  show dd_Rn (e + 15) m_X11_boys (0, [.ref 148], [], sM Ln I L c s) _
  refine dd_Rn.retK 4 (pc := 6) (ls := [.ref 148]) (st := [.int (I 149 1)]) (M := sM Ln I L c s) (o := (none, .int (I 149 1), sM Ln I L c s)) rfl rfl (dd_Af.ret rfl ?_) (by omega)
  show dd_Rn (e + 16) m_X11_sooner (17, [.ref 148, .int a1, .int a2, .int a3, a4], [.int (I 149 1), .int a3], sM Ln I L c s) _
  refine dd_Rn.ite 0 (c := I 149 1 ≤ a3) (A := (77, [.ref 148, .int a1, .int a2, .int a3, a4], [], sM Ln I L c s)) (B := (20, [.ref 148, .int a1, .int a2, .int a3, a4], [], sM Ln I L c s)) rfl (fun hc => ?_) (fun hc => ?_) (by omega)
  · have h := h.1 hc
    exact dd_Rn.retK 1 (pc := 78) (ls := [.ref 148, .int a1, .int a2, .int a3, a4]) (st := [.int a1]) (M := sM Ln I L c s) (o := (none, .int a1, sM Ln I L c s)) rfl rfl h (by omega)
  · have h := h.2 hc
    refine dd_Rn.sub 2 (pc := 22) (ls := [.ref 148, .int a1, .int a2, .int a3, a4]) (st := [.int a3, .ref 148]) (M := sM Ln I L c s) (x := m_X11_isIn) (as := [.ref 148, .int a3]) (rest := []) rfl rfl rfl rfl ?_
    show dd_Rn (e + 15) m_X11_isIn (0, [.ref 148, .int a3], [], sM Ln I L c s) _
    refine dd_Rn.sub 3 (pc := 3) (ls := [.ref 148, .int a3]) (st := [.int 3, .int a3, .ref 148]) (M := sM Ln I L c s) (x := m_X11_of) (as := [.ref 148, .int a3, .int 3]) (rest := []) rfl rfl rfl rfl ?_
    show dd_Rn (e + 14) m_X11_of (0, [.ref 148, .int a3, .int 3], [], sM Ln I L c s) _
    refine dd_Rn.sub 4 (pc := 6) (ls := [.ref 148, .int a3, .int 3]) (st := [.int 3, .int a3, .ref 149]) (M := sM Ln I L c s) (x := m_X11_at) (as := [.int a3, .int 3]) (rest := [.ref 149]) rfl rfl rfl rfl ?_
    show dd_Rn (e + 13) m_X11_at (0, [.int a3, .int 3], [], sM Ln I L c s) _
    refine dd_Rn.retK 7 (pc := 9) (ls := [.int a3, .int 3]) (st := [.int (((187 : Int32) + ((5 : Int32) * a3)) + 3)]) (M := sM Ln I L c s) (o := (none, .int (((187 : Int32) + ((5 : Int32) * a3)) + 3), sM Ln I L c s)) rfl rfl (dd_Af.ret rfl ?_) (by omega)
    show dd_Rn (e + 14) m_X11_of (9, [.ref 148, .int a3, .int 3], [.int (((187 : Int32) + ((5 : Int32) * a3)) + 3), .ref 149], sM Ln I L c s) _
    obtain ⟨hc, h⟩ := h
    refine dd_Rn.ci (fun j0 => (9, [.ref 148, .int a3, .int 3], [.int j0, .ref 149], sM Ln I L c s)) (fun j0 => (10, [.ref 148, .int a3, .int 3], [.int (I 149 (tn j0))], sM Ln I L c s)) (fun j0 => 0 ≤ j0 ∧ tn j0 < 2220) (((187 : Int32) + ((5 : Int32) * a3)) + 3) (fun j0 hc h => dd_Rn.chk 0 (c := 0 ≤ j0 ∧ tn j0 < 2220) (A := (10, [.ref 148, .int a3, .int 3], [.int (I 149 (tn j0))], sM Ln I L c s)) rfl hc h (by omega)) hc ?_
    refine dd_Rn.se (cf := (10, [.ref 148, .int a3, .int 3], [.int (I 149 (tn (((187 : Int32) + ((5 : Int32) * a3)) + 3)))], sM Ln I L c s)) ?_
    refine dd_Rn.retK 0 (pc := 10) (ls := [.ref 148, .int a3, .int 3]) (st := [.int (I 149 (tn (((187 : Int32) + ((5 : Int32) * a3)) + 3)))]) (M := sM Ln I L c s) (o := (none, .int (I 149 (tn (((187 : Int32) + ((5 : Int32) * a3)) + 3))), sM Ln I L c s)) rfl rfl (dd_Af.ret rfl ?_) (by omega)
    show dd_Rn (e + 15) m_X11_isIn (6, [.ref 148, .int a3], [.int (I 149 (tn (((187 : Int32) + ((5 : Int32) * a3)) + 3)))], sM Ln I L c s) _
    refine dd_Rn.ite 1 (c := I 149 (tn (((187 : Int32) + ((5 : Int32) * a3)) + 3)) = 1) (A := (10, [.ref 148, .int a3], [], sM Ln I L c s)) (B := (14, [.ref 148, .int a3], [], sM Ln I L c s)) rfl (fun hc => ?_) (fun hc => ?_) (by omega)
    · have h := h.1 hc
      refine dd_Rn.retK 2 (pc := 15) (ls := [.ref 148, .int a3]) (st := [.int 1]) (M := sM Ln I L c s) (o := (none, .int 1, sM Ln I L c s)) rfl rfl (dd_Af.ret rfl ?_) (by omega)
      show dd_Rn (e + 16) m_X11_sooner (25, [.ref 148, .int a1, .int a2, .int a3, a4], [.int 1], sM Ln I L c s) _
      exact dd_Rn.go 4 (cf' := (12, [.ref 148, .int a1, .int a2, .int (a3 + 1), a4], [], sM Ln I L c s)) rfl h (by omega)
    · have h := h.2 hc
      refine dd_Rn.retK 1 (pc := 15) (ls := [.ref 148, .int a3]) (st := [.int 0]) (M := sM Ln I L c s) (o := (none, .int 0, sM Ln I L c s)) rfl rfl (dd_Af.ret rfl ?_) (by omega)
      show dd_Rn (e + 16) m_X11_sooner (25, [.ref 148, .int a1, .int a2, .int a3, a4], [.int 0], sM Ln I L c s) _
      refine dd_Rn.cV 2 (pc := 32) (ls := [.ref 148, .int a1, .int a2, .int a3, a4]) (st := [.ref 148]) (x := m_X11_keepsAll) (as := [.ref 148]) (rest := []) rfl rfl rfl rfl h ?_
      intro I1 L1 h
      show dd_Rn (e + 16) m_X11_sooner (35, [.ref 148, .int a1, .int a2, .int a3, a4], [], sM Ln I1 L1 c s) _
      refine dd_Rn.cI 9 (pc := 47) (ls := [.ref 148, .int a1, .int a2, .int a3, a4]) (st := [.int ((1 : Int32) <<< (a3 &&& 31)), .ref 148]) (x := m_X11_soonFor) (as := [.ref 148, .int ((1 : Int32) <<< (a3 &&& 31))]) (rest := []) rfl rfl rfl rfl h ?_
      intro x2 I2 L2 h
      show dd_Rn (e + 16) m_X11_sooner (50, [.ref 148, .int a1, .int a2, .int a3, a4], [.int x2], sM Ln I2 L2 c s) _
      refine dd_Rn.ite 3 (c := a2 ≤ x2) (A := (62, [.ref 148, .int a1, .int a2, .int a3, .int x2], [], sM Ln I2 L2 c s)) (B := (58, [.ref 148, .int a1, .int a2, .int a3, .int x2], [], sM Ln I2 L2 c s)) rfl (fun hc => ?_) (fun hc => ?_) (by omega)
      · have h := h.1 hc
        exact dd_Rn.go 8 (cf' := (12, [.ref 148, .int a1, .int (if x2 < a2 then x2 else a2), .int (a3 + 1), .int x2], [], sM Ln I2 L2 c s)) rfl h (by omega)
      · have h := h.2 hc
        exact dd_Rn.go 9 (cf' := (12, [.ref 148, .int a3, .int (if x2 < a2 then x2 else a2), .int (a3 + 1), .int x2], [], sM Ln I2 L2 c s)) rfl h (by omega)

theorem w_X11_loudest_0 {Ln d c s : Nat} {I : Nat → Nat → Int32} {L : Nat → Nat → Int64} {Q : dd_O → Prop} (hd : 28 ≤ d) (h : dd_Rn d m_X11_loudest (7, [.ref 148, .int 0], [], sM Ln (dd_u I 148 (upd (I 148) 0 0)) L c s) Q) : dd_Ev d m_X11_loudest [.ref 148] (sM Ln I L c s) Q := by
  obtain ⟨e, rfl⟩ : ∃ e, d = e + 16 := ⟨d - 16, by omega⟩
  show dd_Rn (e + 16) m_X11_loudest (0, [.ref 148, .null], [], sM Ln I L c s) Q
  exact dd_Rn.go 5 (cf' := (7, [.ref 148, .int 0], [], sM Ln (dd_u I 148 (upd (I 148) 0 0)) L c s)) rfl h (by omega)

theorem w_X11_loudest_7 {Ln d c s : Nat} {I : Nat → Nat → Int32} {L : Nat → Nat → Int64} {Q : dd_O → Prop} {a1 : Int32} (hd : 28 ≤ d) (h : (((15 : Int32) < a1 → Q (none, .int (-1), sM Ln I L c s)) ∧ (¬ ((15 : Int32) < a1) → dd_Ev (d - 1) m_X11_keepsAll [.ref 148] (sM Ln I L c s) (dd_RV Ln c s (fun I1 L1 => dd_Ev (d - 1) m_X11_soonFor [.ref 148, .int (((1 : Int32) <<< ((I1 149 1) &&& 31)) - 1)] (sM Ln (dd_u I1 149 (upd (I1 149) 5 a1)) L1 c s) (dd_RI Ln c s (fun x2 I2 L2 => ((x2 = 101 → dd_Rn d m_X11_loudest (7, [.ref 148, .int (a1 + 1)], [], sM Ln I2 L2 c s) Q) ∧ (¬ (x2 = 101) → Q (none, .int a1, sM Ln I2 L2 c s)))))))))) : dd_Rn d m_X11_loudest (7, [.ref 148, .int a1], [], sM Ln I L c s) Q := by
  obtain ⟨e, rfl⟩ : ∃ e, d = e + 16 := ⟨d - 16, by omega⟩
  refine dd_Rn.ite 2 (c := (15 : Int32) < a1) (A := (45, [.ref 148, .int a1], [], sM Ln I L c s)) (B := (13, [.ref 148, .int a1], [], sM Ln I L c s)) rfl (fun hc => ?_) (fun hc => ?_) (by omega)
  · have h := h.1 hc
    exact dd_Rn.retK 1 (pc := 46) (ls := [.ref 148, .int a1]) (st := [.int (-1)]) (M := sM Ln I L c s) (o := (none, .int (-1), sM Ln I L c s)) rfl rfl h (by omega)
  · have h := h.2 hc
    refine dd_Rn.cV 1 (pc := 14) (ls := [.ref 148, .int a1]) (st := [.ref 148]) (x := m_X11_keepsAll) (as := [.ref 148]) (rest := []) rfl rfl rfl rfl h ?_
    intro I1 L1 h
    show dd_Rn (e + 16) m_X11_loudest (17, [.ref 148, .int a1], [], sM Ln I1 L1 c s) _
    refine dd_Rn.sub 7 (pc := 26) (ls := [.ref 148, .int a1]) (st := [.ref 148, .ref 148]) (M := sM Ln (dd_u I1 149 (upd (I1 149) 5 a1)) L1 c s) (x := m_X11_allBoys) (as := [.ref 148]) (rest := [.ref 148]) rfl rfl rfl rfl ?_
    show dd_Rn (e + 15) m_X11_allBoys (0, [.ref 148], [], sM Ln (dd_u I1 149 (upd (I1 149) 5 a1)) L1 c s) _
    refine dd_Rn.sub 2 (pc := 2) (ls := [.ref 148]) (st := [.ref 148, .int 1]) (M := sM Ln (dd_u I1 149 (upd (I1 149) 5 a1)) L1 c s) (x := m_X11_boys) (as := [.ref 148]) (rest := [.int 1]) rfl rfl rfl rfl ?_
    show dd_Rn (e + 14) m_X11_boys (0, [.ref 148], [], sM Ln (dd_u I1 149 (upd (I1 149) 5 a1)) L1 c s) _
    refine dd_Rn.retK 4 (pc := 6) (ls := [.ref 148]) (st := [.int (I1 149 1)]) (M := sM Ln (dd_u I1 149 (upd (I1 149) 5 a1)) L1 c s) (o := (none, .int (I1 149 1), sM Ln (dd_u I1 149 (upd (I1 149) 5 a1)) L1 c s)) rfl rfl (dd_Af.ret rfl ?_) (by omega)
    show dd_Rn (e + 15) m_X11_allBoys (5, [.ref 148], [.int (I1 149 1), .int 1], sM Ln (dd_u I1 149 (upd (I1 149) 5 a1)) L1 c s) _
    refine dd_Rn.retK 3 (pc := 8) (ls := [.ref 148]) (st := [.int (((1 : Int32) <<< ((I1 149 1) &&& 31)) - 1)]) (M := sM Ln (dd_u I1 149 (upd (I1 149) 5 a1)) L1 c s) (o := (none, .int (((1 : Int32) <<< ((I1 149 1) &&& 31)) - 1), sM Ln (dd_u I1 149 (upd (I1 149) 5 a1)) L1 c s)) rfl rfl (dd_Af.ret rfl ?_) (by omega)
    show dd_Rn (e + 16) m_X11_loudest (29, [.ref 148, .int a1], [.int (((1 : Int32) <<< ((I1 149 1) &&& 31)) - 1), .ref 148], sM Ln (dd_u I1 149 (upd (I1 149) 5 a1)) L1 c s) _
    refine dd_Rn.cI 0 (pc := 29) (ls := [.ref 148, .int a1]) (st := [.int (((1 : Int32) <<< ((I1 149 1) &&& 31)) - 1), .ref 148]) (x := m_X11_soonFor) (as := [.ref 148, .int (((1 : Int32) <<< ((I1 149 1) &&& 31)) - 1)]) (rest := []) rfl rfl rfl rfl h ?_
    intro x2 I2 L2 h
    show dd_Rn (e + 16) m_X11_loudest (32, [.ref 148, .int a1], [.int x2], sM Ln I2 L2 c s) _
    refine dd_Rn.ite 1 (c := x2 = 101) (A := (39, [.ref 148, .int a1], [], sM Ln I2 L2 c s)) (B := (37, [.ref 148, .int a1], [], sM Ln I2 L2 c s)) rfl (fun hc => ?_) (fun hc => ?_) (by omega)
    · have h := h.1 hc
      exact dd_Rn.go 2 (cf' := (7, [.ref 148, .int (a1 + 1)], [], sM Ln I2 L2 c s)) rfl h (by omega)
    · have h := h.2 hc
      exact dd_Rn.retK 1 (pc := 38) (ls := [.ref 148, .int a1]) (st := [.int a1]) (M := sM Ln I2 L2 c s) (o := (none, .int a1, sM Ln I2 L2 c s)) rfl rfl h (by omega)

theorem w_X11_anyNote_0 {Ln d c s : Nat} {I : Nat → Nat → Int32} {L : Nat → Nat → Int64} {Q : dd_O → Prop} {a1 a2 : Int32} (hd : 28 ≤ d) (h : dd_Rn d m_X11_anyNote (2, [.ref 148, .int a1, .int a2, .int 0, .null], [], sM Ln I L c s) Q) : dd_Ev d m_X11_anyNote [.ref 148, .int a1, .int a2] (sM Ln I L c s) Q := by
  obtain ⟨e, rfl⟩ : ∃ e, d = e + 16 := ⟨d - 16, by omega⟩
  show dd_Rn (e + 16) m_X11_anyNote (0, [.ref 148, .int a1, .int a2, .null, .null], [], sM Ln I L c s) Q
  exact dd_Rn.go 2 (cf' := (2, [.ref 148, .int a1, .int a2, .int 0, .null], [], sM Ln I L c s)) rfl h (by omega)

theorem w_X11_anyNote_2 {Ln d c s : Nat} {I : Nat → Nat → Int32} {L : Nat → Nat → Int64} {Q : dd_O → Prop} {a1 a2 a3 : Int32} (hd : 28 ≤ d) (h : (((64 : Int32) ≤ a3 → dd_Rn d m_X11_anyNote (23, [.ref 148, .int a1, .int a2, .int 0, .null], [], sM Ln I L c s) Q) ∧ (¬ ((64 : Int32) ≤ a3) → ((0 ≤ a3 ∧ tn a3 < 64) ∧ dd_Rn d m_X11_anyNote (2, [.ref 148, .int a1, .int a2, .int (a3 + 1), .null], [], sM Ln (dd_u I 160 (upd (I 160) (tn a3) 0)) L c s) Q)))) : dd_Rn d m_X11_anyNote (2, [.ref 148, .int a1, .int a2, .int a3, .null], [], sM Ln I L c s) Q := by
  obtain ⟨e, rfl⟩ : ∃ e, d = e + 16 := ⟨d - 16, by omega⟩
  refine dd_Rn.ite 2 (c := (64 : Int32) ≤ a3) (A := (21, [.ref 148, .int a1, .int a2, .int a3, .null], [], sM Ln I L c s)) (B := (8, [.ref 148, .int a1, .int a2, .int a3, .null], [], sM Ln I L c s)) rfl (fun hc => ?_) (fun hc => ?_) (by omega)
  · have h := h.1 hc
    exact dd_Rn.go 2 (cf' := (23, [.ref 148, .int a1, .int a2, .int 0, .null], [], sM Ln I L c s)) rfl h (by omega)
  · have h := h.2 hc
    obtain ⟨hc, h⟩ := h
    refine dd_Rn.chk 4 (c := 0 ≤ a3 ∧ tn a3 < 64) (A := (15, [.ref 148, .int a1, .int a2, .int a3, .null], [], sM Ln (dd_u I 160 (upd (I 160) (tn a3) 0)) L c s)) rfl hc ?_ (by omega)
    exact dd_Rn.go 2 (cf' := (2, [.ref 148, .int a1, .int a2, .int (a3 + 1), .null], [], sM Ln (dd_u I 160 (upd (I 160) (tn a3) 0)) L c s)) rfl h (by omega)

theorem w_X11_anyNote_23 {Ln d c s : Nat} {I : Nat → Nat → Int32} {L : Nat → Nat → Int64} {Q : dd_O → Prop} {a1 a2 a3 : Int32} {a4 : Value} (hd : 28 ≤ d) (h : (((64 : Int32) ≤ a3 → dd_Rn d m_X11_anyNote (140, [.ref 148, .int a1, .int a2, .int 0, a4], [], sM Ln I L c s) Q) ∧ (¬ ((64 : Int32) ≤ a3) → ((0 ≤ a3 ∧ tn a3 < 64) ∧ ((I 159 (tn a3) = 0 → dd_Rn d m_X11_anyNote (23, [.ref 148, .int a1, .int a2, .int (a3 + 1), a4], [], sM Ln I L c s) Q) ∧ (¬ (I 159 (tn a3) = 0) → dd_Rn d m_X11_anyNote (44, [.ref 148, .int a1, .int a2, .int a3, .int 0], [], sM Ln I L c s) Q)))))) : dd_Rn d m_X11_anyNote (23, [.ref 148, .int a1, .int a2, .int a3, a4], [], sM Ln I L c s) Q := by
  obtain ⟨e, rfl⟩ : ∃ e, d = e + 16 := ⟨d - 16, by omega⟩
  refine dd_Rn.ite 2 (c := (64 : Int32) ≤ a3) (A := (138, [.ref 148, .int a1, .int a2, .int a3, a4], [], sM Ln I L c s)) (B := (29, [.ref 148, .int a1, .int a2, .int a3, a4], [], sM Ln I L c s)) rfl (fun hc => ?_) (fun hc => ?_) (by omega)
  · have h := h.1 hc
    exact dd_Rn.go 2 (cf' := (140, [.ref 148, .int a1, .int a2, .int 0, a4], [], sM Ln I L c s)) rfl h (by omega)
  · have h := h.2 hc
    obtain ⟨hc, h⟩ := h
    refine dd_Rn.chk 3 (c := 0 ≤ a3 ∧ tn a3 < 64) (A := (35, [.ref 148, .int a1, .int a2, .int a3, a4], [.int (I 159 (tn a3))], sM Ln I L c s)) rfl hc ?_ (by omega)
    refine dd_Rn.ite 0 (c := I 159 (tn a3) = 0) (A := (38, [.ref 148, .int a1, .int a2, .int a3, a4], [], sM Ln I L c s)) (B := (41, [.ref 148, .int a1, .int a2, .int a3, a4], [], sM Ln I L c s)) rfl (fun hc => ?_) (fun hc => ?_) (by omega)
    · have h := h.1 hc
      exact dd_Rn.go 3 (cf' := (23, [.ref 148, .int a1, .int a2, .int (a3 + 1), a4], [], sM Ln I L c s)) rfl h (by omega)
    · have h := h.2 hc
      exact dd_Rn.go 2 (cf' := (44, [.ref 148, .int a1, .int a2, .int a3, .int 0], [], sM Ln I L c s)) rfl h (by omega)

theorem w_X11_anyNote_44 {Ln d c s : Nat} {I : Nat → Nat → Int32} {L : Nat → Nat → Int64} {Q : dd_O → Prop} {a1 a2 a3 a4 : Int32} (hd : 28 ≤ d) (h : (((8 : Int32) ≤ a4 → dd_Rn d m_X11_anyNote (23, [.ref 148, .int a1, .int a2, .int (a3 + 1), .int a4], [], sM Ln I L c s) Q) ∧ (¬ ((8 : Int32) ≤ a4) → ((0 ≤ ((187 : Int32) + ((5 : Int32) * a1)) + 0 ∧ tn (((187 : Int32) + ((5 : Int32) * a1)) + 0) < 2220) ∧ ((a3 = (upd (I 149) (tn (((187 : Int32) + ((5 : Int32) * a1)) + 0)) a3) 4 → ((0 ≤ ((187 : Int32) + ((5 : Int32) * a1)) + 3 ∧ tn (((187 : Int32) + ((5 : Int32) * a1)) + 3) < 2220) ∧ dd_Ev (d - 1) m_X11_goesBy [.ref 148, .int a1, .int a4] (sM Ln (dd_u (dd_u I 149 (upd (I 149) (tn (((187 : Int32) + ((5 : Int32) * a1)) + 0)) a3)) 149 (upd (upd (I 149) (tn (((187 : Int32) + ((5 : Int32) * a1)) + 0)) a3) (tn (((187 : Int32) + ((5 : Int32) * a1)) + 3)) 1)) L c s) (dd_RI Ln c s (fun x1 I1 L1 => ((0 ≤ ((187 : Int32) + ((5 : Int32) * a1)) + 0 ∧ tn (((187 : Int32) + ((5 : Int32) * a1)) + 0) < 2220) ∧ ((0 ≤ I1 149 (tn (((187 : Int32) + ((5 : Int32) * a1)) + 0)) ∧ tn (I1 149 (tn (((187 : Int32) + ((5 : Int32) * a1)) + 0))) < 64) ∧ ((a2 = 0 → ((0 ≤ a3 ∧ tn a3 < 64) ∧ ((0 ≤ I1 149 (tn (((187 : Int32) + ((5 : Int32) * a1)) + 0)) ∧ tn (I1 149 (tn (((187 : Int32) + ((5 : Int32) * a1)) + 0))) < 64) ∧ dd_Rn d m_X11_anyNote (44, [.ref 148, .int a1, .int a2, .int a3, .int (a4 + 1)], [], sM Ln (dd_u I1 160 (upd (I1 160) (tn (I1 149 (tn (((187 : Int32) + ((5 : Int32) * a1)) + 0)))) ((I1 160 (tn (I1 149 (tn (((187 : Int32) + ((5 : Int32) * a1)) + 0))))) ||| (I1 159 (tn a3))))) L1 c s) Q))) ∧ (¬ (a2 = 0) → ((0 ≤ I1 149 (tn (((187 : Int32) + ((5 : Int32) * a1)) + 0)) ∧ tn (I1 149 (tn (((187 : Int32) + ((5 : Int32) * a1)) + 0))) < 64) ∧ dd_Rn d m_X11_anyNote (44, [.ref 148, .int a1, .int a2, .int a3, .int (a4 + 1)], [], sM Ln (dd_u I1 160 (upd (I1 160) (tn (I1 149 (tn (((187 : Int32) + ((5 : Int32) * a1)) + 0)))) ((I1 160 (tn (I1 149 (tn (((187 : Int32) + ((5 : Int32) * a1)) + 0))))) ||| ((1 : Int32) <<< (a4 &&& 31))))) L1 c s) Q))))))))) ∧ (¬ (a3 = (upd (I 149) (tn (((187 : Int32) + ((5 : Int32) * a1)) + 0)) a3) 4) → ((0 ≤ ((187 : Int32) + ((5 : Int32) * a1)) + 3 ∧ tn (((187 : Int32) + ((5 : Int32) * a1)) + 3) < 2220) ∧ dd_Ev (d - 1) m_X11_goesBy [.ref 148, .int a1, .int a4] (sM Ln (dd_u (dd_u I 149 (upd (I 149) (tn (((187 : Int32) + ((5 : Int32) * a1)) + 0)) a3)) 149 (upd (upd (I 149) (tn (((187 : Int32) + ((5 : Int32) * a1)) + 0)) a3) (tn (((187 : Int32) + ((5 : Int32) * a1)) + 3)) 0)) L c s) (dd_RI Ln c s (fun x2 I2 L2 => ((0 ≤ ((187 : Int32) + ((5 : Int32) * a1)) + 0 ∧ tn (((187 : Int32) + ((5 : Int32) * a1)) + 0) < 2220) ∧ ((0 ≤ I2 149 (tn (((187 : Int32) + ((5 : Int32) * a1)) + 0)) ∧ tn (I2 149 (tn (((187 : Int32) + ((5 : Int32) * a1)) + 0))) < 64) ∧ ((a2 = 0 → ((0 ≤ a3 ∧ tn a3 < 64) ∧ ((0 ≤ I2 149 (tn (((187 : Int32) + ((5 : Int32) * a1)) + 0)) ∧ tn (I2 149 (tn (((187 : Int32) + ((5 : Int32) * a1)) + 0))) < 64) ∧ dd_Rn d m_X11_anyNote (44, [.ref 148, .int a1, .int a2, .int a3, .int (a4 + 1)], [], sM Ln (dd_u I2 160 (upd (I2 160) (tn (I2 149 (tn (((187 : Int32) + ((5 : Int32) * a1)) + 0)))) ((I2 160 (tn (I2 149 (tn (((187 : Int32) + ((5 : Int32) * a1)) + 0))))) ||| (I2 159 (tn a3))))) L2 c s) Q))) ∧ (¬ (a2 = 0) → ((0 ≤ I2 149 (tn (((187 : Int32) + ((5 : Int32) * a1)) + 0)) ∧ tn (I2 149 (tn (((187 : Int32) + ((5 : Int32) * a1)) + 0))) < 64) ∧ dd_Rn d m_X11_anyNote (44, [.ref 148, .int a1, .int a2, .int a3, .int (a4 + 1)], [], sM Ln (dd_u I2 160 (upd (I2 160) (tn (I2 149 (tn (((187 : Int32) + ((5 : Int32) * a1)) + 0)))) ((I2 160 (tn (I2 149 (tn (((187 : Int32) + ((5 : Int32) * a1)) + 0))))) ||| ((1 : Int32) <<< (a4 &&& 31))))) L2 c s) Q)))))))))))))) : dd_Rn d m_X11_anyNote (44, [.ref 148, .int a1, .int a2, .int a3, .int a4], [], sM Ln I L c s) Q := by
  obtain ⟨e, rfl⟩ : ∃ e, d = e + 16 := ⟨d - 16, by omega⟩
  refine dd_Rn.ite 2 (c := (8 : Int32) ≤ a4) (A := (132, [.ref 148, .int a1, .int a2, .int a3, .int a4], [], sM Ln I L c s)) (B := (51, [.ref 148, .int a1, .int a2, .int a3, .int a4], [], sM Ln I L c s)) rfl (fun hc => ?_) (fun hc => ?_) (by omega)
  · have h := h.1 hc
    exact dd_Rn.go 2 (cf' := (23, [.ref 148, .int a1, .int a2, .int (a3 + 1), .int a4], [], sM Ln I L c s)) rfl h (by omega)
  · have h := h.2 hc
    refine dd_Rn.sub 4 (pc := 57) (ls := [.ref 148, .int a1, .int a2, .int a3, .int a4]) (st := [.int 0, .int a1, .ref 149]) (M := sM Ln I L c s) (x := m_X11_at) (as := [.int a1, .int 0]) (rest := [.ref 149]) rfl rfl rfl rfl ?_
    show dd_Rn (e + 15) m_X11_at (0, [.int a1, .int 0], [], sM Ln I L c s) _
    refine dd_Rn.retK 7 (pc := 9) (ls := [.int a1, .int 0]) (st := [.int (((187 : Int32) + ((5 : Int32) * a1)) + 0)]) (M := sM Ln I L c s) (o := (none, .int (((187 : Int32) + ((5 : Int32) * a1)) + 0), sM Ln I L c s)) rfl rfl (dd_Af.ret rfl ?_) (by omega)
    show dd_Rn (e + 16) m_X11_anyNote (60, [.ref 148, .int a1, .int a2, .int a3, .int a4], [.int (((187 : Int32) + ((5 : Int32) * a1)) + 0), .ref 149], sM Ln I L c s) _
    obtain ⟨hc, h⟩ := h
    refine dd_Rn.go 1 (cf' := (61, [.ref 148, .int a1, .int a2, .int a3, .int a4], [.int a3, .int (((187 : Int32) + ((5 : Int32) * a1)) + 0), .ref 149], sM Ln I L c s)) rfl ?_ (by omega)
    refine dd_Rn.ci (fun j0 => (61, [.ref 148, .int a1, .int a2, .int a3, .int a4], [.int a3, .int j0, .ref 149], sM Ln I L c s)) (fun j0 => (62, [.ref 148, .int a1, .int a2, .int a3, .int a4], [], sM Ln (dd_u I 149 (upd (I 149) (tn j0) a3)) L c s)) (fun j0 => 0 ≤ j0 ∧ tn j0 < 2220) (((187 : Int32) + ((5 : Int32) * a1)) + 0) (fun j0 hc h => dd_Rn.chk 0 (c := 0 ≤ j0 ∧ tn j0 < 2220) (A := (62, [.ref 148, .int a1, .int a2, .int a3, .int a4], [], sM Ln (dd_u I 149 (upd (I 149) (tn j0) a3)) L c s)) rfl hc h (by omega)) hc ?_
    refine dd_Rn.se (cf := (62, [.ref 148, .int a1, .int a2, .int a3, .int a4], [], sM Ln (dd_u I 149 (upd (I 149) (tn (((187 : Int32) + ((5 : Int32) * a1)) + 0)) a3)) L c s)) ?_
    refine dd_Rn.sub 4 (pc := 68) (ls := [.ref 148, .int a1, .int a2, .int a3, .int a4]) (st := [.int 3, .int a1, .ref 149]) (M := sM Ln (dd_u I 149 (upd (I 149) (tn (((187 : Int32) + ((5 : Int32) * a1)) + 0)) a3)) L c s) (x := m_X11_at) (as := [.int a1, .int 3]) (rest := [.ref 149]) rfl rfl rfl rfl ?_
    show dd_Rn (e + 15) m_X11_at (0, [.int a1, .int 3], [], sM Ln (dd_u I 149 (upd (I 149) (tn (((187 : Int32) + ((5 : Int32) * a1)) + 0)) a3)) L c s) _
    refine dd_Rn.retK 7 (pc := 9) (ls := [.int a1, .int 3]) (st := [.int (((187 : Int32) + ((5 : Int32) * a1)) + 3)]) (M := sM Ln (dd_u I 149 (upd (I 149) (tn (((187 : Int32) + ((5 : Int32) * a1)) + 0)) a3)) L c s) (o := (none, .int (((187 : Int32) + ((5 : Int32) * a1)) + 3), sM Ln (dd_u I 149 (upd (I 149) (tn (((187 : Int32) + ((5 : Int32) * a1)) + 0)) a3)) L c s)) rfl rfl (dd_Af.ret rfl ?_) (by omega)
    show dd_Rn (e + 16) m_X11_anyNote (71, [.ref 148, .int a1, .int a2, .int a3, .int a4], [.int (((187 : Int32) + ((5 : Int32) * a1)) + 3), .ref 149], sM Ln (dd_u I 149 (upd (I 149) (tn (((187 : Int32) + ((5 : Int32) * a1)) + 0)) a3)) L c s) _
    refine dd_Rn.ite 5 (c := a3 = (upd (I 149) (tn (((187 : Int32) + ((5 : Int32) * a1)) + 0)) a3) 4) (A := (81, [.ref 148, .int a1, .int a2, .int a3, .int a4], [.int (((187 : Int32) + ((5 : Int32) * a1)) + 3), .ref 149], sM Ln (dd_u I 149 (upd (I 149) (tn (((187 : Int32) + ((5 : Int32) * a1)) + 0)) a3)) L c s)) (B := (85, [.ref 148, .int a1, .int a2, .int a3, .int a4], [.int (((187 : Int32) + ((5 : Int32) * a1)) + 3), .ref 149], sM Ln (dd_u I 149 (upd (I 149) (tn (((187 : Int32) + ((5 : Int32) * a1)) + 0)) a3)) L c s)) rfl (fun hc => ?_) (fun hc => ?_) (by omega)
    · have h := h.1 hc
      obtain ⟨hc, h⟩ := h
      refine dd_Rn.go 2 (cf' := (86, [.ref 148, .int a1, .int a2, .int a3, .int a4], [.int 1, .int (((187 : Int32) + ((5 : Int32) * a1)) + 3), .ref 149], sM Ln (dd_u I 149 (upd (I 149) (tn (((187 : Int32) + ((5 : Int32) * a1)) + 0)) a3)) L c s)) rfl ?_ (by omega)
      refine dd_Rn.ci (fun j0 => (86, [.ref 148, .int a1, .int a2, .int a3, .int a4], [.int 1, .int j0, .ref 149], sM Ln (dd_u I 149 (upd (I 149) (tn (((187 : Int32) + ((5 : Int32) * a1)) + 0)) a3)) L c s)) (fun j0 => (87, [.ref 148, .int a1, .int a2, .int a3, .int a4], [], sM Ln (dd_u (dd_u I 149 (upd (I 149) (tn (((187 : Int32) + ((5 : Int32) * a1)) + 0)) a3)) 149 (upd (upd (I 149) (tn (((187 : Int32) + ((5 : Int32) * a1)) + 0)) a3) (tn j0) 1)) L c s)) (fun j0 => 0 ≤ j0 ∧ tn j0 < 2220) (((187 : Int32) + ((5 : Int32) * a1)) + 3) (fun j0 hc h => dd_Rn.chk 0 (c := 0 ≤ j0 ∧ tn j0 < 2220) (A := (87, [.ref 148, .int a1, .int a2, .int a3, .int a4], [], sM Ln (dd_u (dd_u I 149 (upd (I 149) (tn (((187 : Int32) + ((5 : Int32) * a1)) + 0)) a3)) 149 (upd (upd (I 149) (tn (((187 : Int32) + ((5 : Int32) * a1)) + 0)) a3) (tn j0) 1)) L c s)) rfl hc h (by omega)) hc ?_
      refine dd_Rn.se (cf := (87, [.ref 148, .int a1, .int a2, .int a3, .int a4], [], sM Ln (dd_u (dd_u I 149 (upd (I 149) (tn (((187 : Int32) + ((5 : Int32) * a1)) + 0)) a3)) 149 (upd (upd (I 149) (tn (((187 : Int32) + ((5 : Int32) * a1)) + 0)) a3) (tn (((187 : Int32) + ((5 : Int32) * a1)) + 3)) 1)) L c s)) ?_
      refine dd_Rn.cI 3 (pc := 91) (ls := [.ref 148, .int a1, .int a2, .int a3, .int a4]) (st := [.int a4, .int a1, .ref 148]) (x := m_X11_goesBy) (as := [.ref 148, .int a1, .int a4]) (rest := []) rfl rfl rfl rfl h ?_
      intro x1 I1 L1 h
      show dd_Rn (e + 16) m_X11_anyNote (94, [.ref 148, .int a1, .int a2, .int a3, .int a4], [.int x1], sM Ln I1 L1 c s) _
      refine dd_Rn.sub 6 (pc := 102) (ls := [.ref 148, .int a1, .int a2, .int a3, .int a4]) (st := [.int 0, .int a1, .ref 148, .ref 160]) (M := sM Ln I1 L1 c s) (x := m_X11_of) (as := [.ref 148, .int a1, .int 0]) (rest := [.ref 160]) rfl rfl rfl rfl ?_
      show dd_Rn (e + 15) m_X11_of (0, [.ref 148, .int a1, .int 0], [], sM Ln I1 L1 c s) _
      refine dd_Rn.sub 4 (pc := 6) (ls := [.ref 148, .int a1, .int 0]) (st := [.int 0, .int a1, .ref 149]) (M := sM Ln I1 L1 c s) (x := m_X11_at) (as := [.int a1, .int 0]) (rest := [.ref 149]) rfl rfl rfl rfl ?_
      show dd_Rn (e + 14) m_X11_at (0, [.int a1, .int 0], [], sM Ln I1 L1 c s) _
      refine dd_Rn.retK 7 (pc := 9) (ls := [.int a1, .int 0]) (st := [.int (((187 : Int32) + ((5 : Int32) * a1)) + 0)]) (M := sM Ln I1 L1 c s) (o := (none, .int (((187 : Int32) + ((5 : Int32) * a1)) + 0), sM Ln I1 L1 c s)) rfl rfl (dd_Af.ret rfl ?_) (by omega)
      show dd_Rn (e + 15) m_X11_of (9, [.ref 148, .int a1, .int 0], [.int (((187 : Int32) + ((5 : Int32) * a1)) + 0), .ref 149], sM Ln I1 L1 c s) _
      obtain ⟨hc, h⟩ := h
      refine dd_Rn.ci (fun j0 => (9, [.ref 148, .int a1, .int 0], [.int j0, .ref 149], sM Ln I1 L1 c s)) (fun j0 => (10, [.ref 148, .int a1, .int 0], [.int (I1 149 (tn j0))], sM Ln I1 L1 c s)) (fun j0 => 0 ≤ j0 ∧ tn j0 < 2220) (((187 : Int32) + ((5 : Int32) * a1)) + 0) (fun j0 hc h => dd_Rn.chk 0 (c := 0 ≤ j0 ∧ tn j0 < 2220) (A := (10, [.ref 148, .int a1, .int 0], [.int (I1 149 (tn j0))], sM Ln I1 L1 c s)) rfl hc h (by omega)) hc ?_
      refine dd_Rn.se (cf := (10, [.ref 148, .int a1, .int 0], [.int (I1 149 (tn (((187 : Int32) + ((5 : Int32) * a1)) + 0)))], sM Ln I1 L1 c s)) ?_
      refine dd_Rn.retK 0 (pc := 10) (ls := [.ref 148, .int a1, .int 0]) (st := [.int (I1 149 (tn (((187 : Int32) + ((5 : Int32) * a1)) + 0)))]) (M := sM Ln I1 L1 c s) (o := (none, .int (I1 149 (tn (((187 : Int32) + ((5 : Int32) * a1)) + 0))), sM Ln I1 L1 c s)) rfl rfl (dd_Af.ret rfl ?_) (by omega)
      show dd_Rn (e + 16) m_X11_anyNote (105, [.ref 148, .int a1, .int a2, .int a3, .int a4], [.int (I1 149 (tn (((187 : Int32) + ((5 : Int32) * a1)) + 0))), .ref 160], sM Ln I1 L1 c s) _
      obtain ⟨hc, h⟩ := h
      refine dd_Rn.go 1 (cf' := (106, [.ref 148, .int a1, .int a2, .int a3, .int a4], [.int (I1 149 (tn (((187 : Int32) + ((5 : Int32) * a1)) + 0))), .ref 160, .int (I1 149 (tn (((187 : Int32) + ((5 : Int32) * a1)) + 0))), .ref 160], sM Ln I1 L1 c s)) rfl ?_ (by omega)
      refine dd_Rn.ci (fun j0 => (106, [.ref 148, .int a1, .int a2, .int a3, .int a4], [.int j0, .ref 160, .int (I1 149 (tn (((187 : Int32) + ((5 : Int32) * a1)) + 0))), .ref 160], sM Ln I1 L1 c s)) (fun j0 => (107, [.ref 148, .int a1, .int a2, .int a3, .int a4], [.int (I1 160 (tn j0)), .int (I1 149 (tn (((187 : Int32) + ((5 : Int32) * a1)) + 0))), .ref 160], sM Ln I1 L1 c s)) (fun j0 => 0 ≤ j0 ∧ tn j0 < 64) (I1 149 (tn (((187 : Int32) + ((5 : Int32) * a1)) + 0))) (fun j0 hc h => dd_Rn.chk 0 (c := 0 ≤ j0 ∧ tn j0 < 64) (A := (107, [.ref 148, .int a1, .int a2, .int a3, .int a4], [.int (I1 160 (tn j0)), .int (I1 149 (tn (((187 : Int32) + ((5 : Int32) * a1)) + 0))), .ref 160], sM Ln I1 L1 c s)) rfl hc h (by omega)) hc ?_
      refine dd_Rn.se (cf := (107, [.ref 148, .int a1, .int a2, .int a3, .int a4], [.int (I1 160 (tn (I1 149 (tn (((187 : Int32) + ((5 : Int32) * a1)) + 0))))), .int (I1 149 (tn (((187 : Int32) + ((5 : Int32) * a1)) + 0))), .ref 160], sM Ln I1 L1 c s)) ?_
      refine dd_Rn.ite 1 (c := a2 = 0) (A := (118, [.ref 148, .int a1, .int a2, .int a3, .int a4], [.int (I1 160 (tn (I1 149 (tn (((187 : Int32) + ((5 : Int32) * a1)) + 0))))), .int (I1 149 (tn (((187 : Int32) + ((5 : Int32) * a1)) + 0))), .ref 160], sM Ln I1 L1 c s)) (B := (111, [.ref 148, .int a1, .int a2, .int a3, .int a4], [.int (I1 160 (tn (I1 149 (tn (((187 : Int32) + ((5 : Int32) * a1)) + 0))))), .int (I1 149 (tn (((187 : Int32) + ((5 : Int32) * a1)) + 0))), .ref 160], sM Ln I1 L1 c s)) rfl (fun hc => ?_) (fun hc => ?_) (by omega)
      · have h := h.1 hc
        obtain ⟨hc, h⟩ := h
        refine dd_Rn.chk 3 (c := 0 ≤ a3 ∧ tn a3 < 64) (A := (124, [.ref 148, .int a1, .int a2, .int a3, .int a4], [.int (I1 159 (tn a3)), .int (I1 160 (tn (I1 149 (tn (((187 : Int32) + ((5 : Int32) * a1)) + 0))))), .int (I1 149 (tn (((187 : Int32) + ((5 : Int32) * a1)) + 0))), .ref 160], sM Ln I1 L1 c s)) rfl hc ?_ (by omega)
        obtain ⟨hc, h⟩ := h
        refine dd_Rn.go 1 (cf' := (125, [.ref 148, .int a1, .int a2, .int a3, .int a4], [.int ((I1 160 (tn (I1 149 (tn (((187 : Int32) + ((5 : Int32) * a1)) + 0))))) ||| (I1 159 (tn a3))), .int (I1 149 (tn (((187 : Int32) + ((5 : Int32) * a1)) + 0))), .ref 160], sM Ln I1 L1 c s)) rfl ?_ (by omega)
        refine dd_Rn.ci (fun j0 => (125, [.ref 148, .int a1, .int a2, .int a3, .int a4], [.int ((I1 160 (tn (I1 149 (tn (((187 : Int32) + ((5 : Int32) * a1)) + 0))))) ||| (I1 159 (tn a3))), .int j0, .ref 160], sM Ln I1 L1 c s)) (fun j0 => (126, [.ref 148, .int a1, .int a2, .int a3, .int a4], [], sM Ln (dd_u I1 160 (upd (I1 160) (tn j0) ((I1 160 (tn (I1 149 (tn (((187 : Int32) + ((5 : Int32) * a1)) + 0))))) ||| (I1 159 (tn a3))))) L1 c s)) (fun j0 => 0 ≤ j0 ∧ tn j0 < 64) (I1 149 (tn (((187 : Int32) + ((5 : Int32) * a1)) + 0))) (fun j0 hc h => dd_Rn.chk 0 (c := 0 ≤ j0 ∧ tn j0 < 64) (A := (126, [.ref 148, .int a1, .int a2, .int a3, .int a4], [], sM Ln (dd_u I1 160 (upd (I1 160) (tn j0) ((I1 160 (tn (I1 149 (tn (((187 : Int32) + ((5 : Int32) * a1)) + 0))))) ||| (I1 159 (tn a3))))) L1 c s)) rfl hc h (by omega)) hc ?_
        refine dd_Rn.se (cf := (126, [.ref 148, .int a1, .int a2, .int a3, .int a4], [], sM Ln (dd_u I1 160 (upd (I1 160) (tn (I1 149 (tn (((187 : Int32) + ((5 : Int32) * a1)) + 0)))) ((I1 160 (tn (I1 149 (tn (((187 : Int32) + ((5 : Int32) * a1)) + 0))))) ||| (I1 159 (tn a3))))) L1 c s)) ?_
        exact dd_Rn.go 2 (cf' := (44, [.ref 148, .int a1, .int a2, .int a3, .int (a4 + 1)], [], sM Ln (dd_u I1 160 (upd (I1 160) (tn (I1 149 (tn (((187 : Int32) + ((5 : Int32) * a1)) + 0)))) ((I1 160 (tn (I1 149 (tn (((187 : Int32) + ((5 : Int32) * a1)) + 0))))) ||| (I1 159 (tn a3))))) L1 c s)) rfl h (by omega)
      · have h := h.2 hc
        obtain ⟨hc, h⟩ := h
        refine dd_Rn.go 5 (cf' := (125, [.ref 148, .int a1, .int a2, .int a3, .int a4], [.int ((I1 160 (tn (I1 149 (tn (((187 : Int32) + ((5 : Int32) * a1)) + 0))))) ||| ((1 : Int32) <<< (a4 &&& 31))), .int (I1 149 (tn (((187 : Int32) + ((5 : Int32) * a1)) + 0))), .ref 160], sM Ln I1 L1 c s)) rfl ?_ (by omega)
        refine dd_Rn.ci (fun j0 => (125, [.ref 148, .int a1, .int a2, .int a3, .int a4], [.int ((I1 160 (tn (I1 149 (tn (((187 : Int32) + ((5 : Int32) * a1)) + 0))))) ||| ((1 : Int32) <<< (a4 &&& 31))), .int j0, .ref 160], sM Ln I1 L1 c s)) (fun j0 => (126, [.ref 148, .int a1, .int a2, .int a3, .int a4], [], sM Ln (dd_u I1 160 (upd (I1 160) (tn j0) ((I1 160 (tn (I1 149 (tn (((187 : Int32) + ((5 : Int32) * a1)) + 0))))) ||| ((1 : Int32) <<< (a4 &&& 31))))) L1 c s)) (fun j0 => 0 ≤ j0 ∧ tn j0 < 64) (I1 149 (tn (((187 : Int32) + ((5 : Int32) * a1)) + 0))) (fun j0 hc h => dd_Rn.chk 0 (c := 0 ≤ j0 ∧ tn j0 < 64) (A := (126, [.ref 148, .int a1, .int a2, .int a3, .int a4], [], sM Ln (dd_u I1 160 (upd (I1 160) (tn j0) ((I1 160 (tn (I1 149 (tn (((187 : Int32) + ((5 : Int32) * a1)) + 0))))) ||| ((1 : Int32) <<< (a4 &&& 31))))) L1 c s)) rfl hc h (by omega)) hc ?_
        refine dd_Rn.se (cf := (126, [.ref 148, .int a1, .int a2, .int a3, .int a4], [], sM Ln (dd_u I1 160 (upd (I1 160) (tn (I1 149 (tn (((187 : Int32) + ((5 : Int32) * a1)) + 0)))) ((I1 160 (tn (I1 149 (tn (((187 : Int32) + ((5 : Int32) * a1)) + 0))))) ||| ((1 : Int32) <<< (a4 &&& 31))))) L1 c s)) ?_
        exact dd_Rn.go 2 (cf' := (44, [.ref 148, .int a1, .int a2, .int a3, .int (a4 + 1)], [], sM Ln (dd_u I1 160 (upd (I1 160) (tn (I1 149 (tn (((187 : Int32) + ((5 : Int32) * a1)) + 0)))) ((I1 160 (tn (I1 149 (tn (((187 : Int32) + ((5 : Int32) * a1)) + 0))))) ||| ((1 : Int32) <<< (a4 &&& 31))))) L1 c s)) rfl h (by omega)
    · have h := h.2 hc
      obtain ⟨hc, h⟩ := h
      refine dd_Rn.go 1 (cf' := (86, [.ref 148, .int a1, .int a2, .int a3, .int a4], [.int 0, .int (((187 : Int32) + ((5 : Int32) * a1)) + 3), .ref 149], sM Ln (dd_u I 149 (upd (I 149) (tn (((187 : Int32) + ((5 : Int32) * a1)) + 0)) a3)) L c s)) rfl ?_ (by omega)
      refine dd_Rn.ci (fun j0 => (86, [.ref 148, .int a1, .int a2, .int a3, .int a4], [.int 0, .int j0, .ref 149], sM Ln (dd_u I 149 (upd (I 149) (tn (((187 : Int32) + ((5 : Int32) * a1)) + 0)) a3)) L c s)) (fun j0 => (87, [.ref 148, .int a1, .int a2, .int a3, .int a4], [], sM Ln (dd_u (dd_u I 149 (upd (I 149) (tn (((187 : Int32) + ((5 : Int32) * a1)) + 0)) a3)) 149 (upd (upd (I 149) (tn (((187 : Int32) + ((5 : Int32) * a1)) + 0)) a3) (tn j0) 0)) L c s)) (fun j0 => 0 ≤ j0 ∧ tn j0 < 2220) (((187 : Int32) + ((5 : Int32) * a1)) + 3) (fun j0 hc h => dd_Rn.chk 0 (c := 0 ≤ j0 ∧ tn j0 < 2220) (A := (87, [.ref 148, .int a1, .int a2, .int a3, .int a4], [], sM Ln (dd_u (dd_u I 149 (upd (I 149) (tn (((187 : Int32) + ((5 : Int32) * a1)) + 0)) a3)) 149 (upd (upd (I 149) (tn (((187 : Int32) + ((5 : Int32) * a1)) + 0)) a3) (tn j0) 0)) L c s)) rfl hc h (by omega)) hc ?_
      refine dd_Rn.se (cf := (87, [.ref 148, .int a1, .int a2, .int a3, .int a4], [], sM Ln (dd_u (dd_u I 149 (upd (I 149) (tn (((187 : Int32) + ((5 : Int32) * a1)) + 0)) a3)) 149 (upd (upd (I 149) (tn (((187 : Int32) + ((5 : Int32) * a1)) + 0)) a3) (tn (((187 : Int32) + ((5 : Int32) * a1)) + 3)) 0)) L c s)) ?_
      refine dd_Rn.cI 3 (pc := 91) (ls := [.ref 148, .int a1, .int a2, .int a3, .int a4]) (st := [.int a4, .int a1, .ref 148]) (x := m_X11_goesBy) (as := [.ref 148, .int a1, .int a4]) (rest := []) rfl rfl rfl rfl h ?_
      intro x2 I2 L2 h
      show dd_Rn (e + 16) m_X11_anyNote (94, [.ref 148, .int a1, .int a2, .int a3, .int a4], [.int x2], sM Ln I2 L2 c s) _
      refine dd_Rn.sub 6 (pc := 102) (ls := [.ref 148, .int a1, .int a2, .int a3, .int a4]) (st := [.int 0, .int a1, .ref 148, .ref 160]) (M := sM Ln I2 L2 c s) (x := m_X11_of) (as := [.ref 148, .int a1, .int 0]) (rest := [.ref 160]) rfl rfl rfl rfl ?_
      show dd_Rn (e + 15) m_X11_of (0, [.ref 148, .int a1, .int 0], [], sM Ln I2 L2 c s) _
      refine dd_Rn.sub 4 (pc := 6) (ls := [.ref 148, .int a1, .int 0]) (st := [.int 0, .int a1, .ref 149]) (M := sM Ln I2 L2 c s) (x := m_X11_at) (as := [.int a1, .int 0]) (rest := [.ref 149]) rfl rfl rfl rfl ?_
      show dd_Rn (e + 14) m_X11_at (0, [.int a1, .int 0], [], sM Ln I2 L2 c s) _
      refine dd_Rn.retK 7 (pc := 9) (ls := [.int a1, .int 0]) (st := [.int (((187 : Int32) + ((5 : Int32) * a1)) + 0)]) (M := sM Ln I2 L2 c s) (o := (none, .int (((187 : Int32) + ((5 : Int32) * a1)) + 0), sM Ln I2 L2 c s)) rfl rfl (dd_Af.ret rfl ?_) (by omega)
      show dd_Rn (e + 15) m_X11_of (9, [.ref 148, .int a1, .int 0], [.int (((187 : Int32) + ((5 : Int32) * a1)) + 0), .ref 149], sM Ln I2 L2 c s) _
      obtain ⟨hc, h⟩ := h
      refine dd_Rn.ci (fun j0 => (9, [.ref 148, .int a1, .int 0], [.int j0, .ref 149], sM Ln I2 L2 c s)) (fun j0 => (10, [.ref 148, .int a1, .int 0], [.int (I2 149 (tn j0))], sM Ln I2 L2 c s)) (fun j0 => 0 ≤ j0 ∧ tn j0 < 2220) (((187 : Int32) + ((5 : Int32) * a1)) + 0) (fun j0 hc h => dd_Rn.chk 0 (c := 0 ≤ j0 ∧ tn j0 < 2220) (A := (10, [.ref 148, .int a1, .int 0], [.int (I2 149 (tn j0))], sM Ln I2 L2 c s)) rfl hc h (by omega)) hc ?_
      refine dd_Rn.se (cf := (10, [.ref 148, .int a1, .int 0], [.int (I2 149 (tn (((187 : Int32) + ((5 : Int32) * a1)) + 0)))], sM Ln I2 L2 c s)) ?_
      refine dd_Rn.retK 0 (pc := 10) (ls := [.ref 148, .int a1, .int 0]) (st := [.int (I2 149 (tn (((187 : Int32) + ((5 : Int32) * a1)) + 0)))]) (M := sM Ln I2 L2 c s) (o := (none, .int (I2 149 (tn (((187 : Int32) + ((5 : Int32) * a1)) + 0))), sM Ln I2 L2 c s)) rfl rfl (dd_Af.ret rfl ?_) (by omega)
      show dd_Rn (e + 16) m_X11_anyNote (105, [.ref 148, .int a1, .int a2, .int a3, .int a4], [.int (I2 149 (tn (((187 : Int32) + ((5 : Int32) * a1)) + 0))), .ref 160], sM Ln I2 L2 c s) _
      obtain ⟨hc, h⟩ := h
      refine dd_Rn.go 1 (cf' := (106, [.ref 148, .int a1, .int a2, .int a3, .int a4], [.int (I2 149 (tn (((187 : Int32) + ((5 : Int32) * a1)) + 0))), .ref 160, .int (I2 149 (tn (((187 : Int32) + ((5 : Int32) * a1)) + 0))), .ref 160], sM Ln I2 L2 c s)) rfl ?_ (by omega)
      refine dd_Rn.ci (fun j0 => (106, [.ref 148, .int a1, .int a2, .int a3, .int a4], [.int j0, .ref 160, .int (I2 149 (tn (((187 : Int32) + ((5 : Int32) * a1)) + 0))), .ref 160], sM Ln I2 L2 c s)) (fun j0 => (107, [.ref 148, .int a1, .int a2, .int a3, .int a4], [.int (I2 160 (tn j0)), .int (I2 149 (tn (((187 : Int32) + ((5 : Int32) * a1)) + 0))), .ref 160], sM Ln I2 L2 c s)) (fun j0 => 0 ≤ j0 ∧ tn j0 < 64) (I2 149 (tn (((187 : Int32) + ((5 : Int32) * a1)) + 0))) (fun j0 hc h => dd_Rn.chk 0 (c := 0 ≤ j0 ∧ tn j0 < 64) (A := (107, [.ref 148, .int a1, .int a2, .int a3, .int a4], [.int (I2 160 (tn j0)), .int (I2 149 (tn (((187 : Int32) + ((5 : Int32) * a1)) + 0))), .ref 160], sM Ln I2 L2 c s)) rfl hc h (by omega)) hc ?_
      refine dd_Rn.se (cf := (107, [.ref 148, .int a1, .int a2, .int a3, .int a4], [.int (I2 160 (tn (I2 149 (tn (((187 : Int32) + ((5 : Int32) * a1)) + 0))))), .int (I2 149 (tn (((187 : Int32) + ((5 : Int32) * a1)) + 0))), .ref 160], sM Ln I2 L2 c s)) ?_
      refine dd_Rn.ite 1 (c := a2 = 0) (A := (118, [.ref 148, .int a1, .int a2, .int a3, .int a4], [.int (I2 160 (tn (I2 149 (tn (((187 : Int32) + ((5 : Int32) * a1)) + 0))))), .int (I2 149 (tn (((187 : Int32) + ((5 : Int32) * a1)) + 0))), .ref 160], sM Ln I2 L2 c s)) (B := (111, [.ref 148, .int a1, .int a2, .int a3, .int a4], [.int (I2 160 (tn (I2 149 (tn (((187 : Int32) + ((5 : Int32) * a1)) + 0))))), .int (I2 149 (tn (((187 : Int32) + ((5 : Int32) * a1)) + 0))), .ref 160], sM Ln I2 L2 c s)) rfl (fun hc => ?_) (fun hc => ?_) (by omega)
      · have h := h.1 hc
        obtain ⟨hc, h⟩ := h
        refine dd_Rn.chk 3 (c := 0 ≤ a3 ∧ tn a3 < 64) (A := (124, [.ref 148, .int a1, .int a2, .int a3, .int a4], [.int (I2 159 (tn a3)), .int (I2 160 (tn (I2 149 (tn (((187 : Int32) + ((5 : Int32) * a1)) + 0))))), .int (I2 149 (tn (((187 : Int32) + ((5 : Int32) * a1)) + 0))), .ref 160], sM Ln I2 L2 c s)) rfl hc ?_ (by omega)
        obtain ⟨hc, h⟩ := h
        refine dd_Rn.go 1 (cf' := (125, [.ref 148, .int a1, .int a2, .int a3, .int a4], [.int ((I2 160 (tn (I2 149 (tn (((187 : Int32) + ((5 : Int32) * a1)) + 0))))) ||| (I2 159 (tn a3))), .int (I2 149 (tn (((187 : Int32) + ((5 : Int32) * a1)) + 0))), .ref 160], sM Ln I2 L2 c s)) rfl ?_ (by omega)
        refine dd_Rn.ci (fun j0 => (125, [.ref 148, .int a1, .int a2, .int a3, .int a4], [.int ((I2 160 (tn (I2 149 (tn (((187 : Int32) + ((5 : Int32) * a1)) + 0))))) ||| (I2 159 (tn a3))), .int j0, .ref 160], sM Ln I2 L2 c s)) (fun j0 => (126, [.ref 148, .int a1, .int a2, .int a3, .int a4], [], sM Ln (dd_u I2 160 (upd (I2 160) (tn j0) ((I2 160 (tn (I2 149 (tn (((187 : Int32) + ((5 : Int32) * a1)) + 0))))) ||| (I2 159 (tn a3))))) L2 c s)) (fun j0 => 0 ≤ j0 ∧ tn j0 < 64) (I2 149 (tn (((187 : Int32) + ((5 : Int32) * a1)) + 0))) (fun j0 hc h => dd_Rn.chk 0 (c := 0 ≤ j0 ∧ tn j0 < 64) (A := (126, [.ref 148, .int a1, .int a2, .int a3, .int a4], [], sM Ln (dd_u I2 160 (upd (I2 160) (tn j0) ((I2 160 (tn (I2 149 (tn (((187 : Int32) + ((5 : Int32) * a1)) + 0))))) ||| (I2 159 (tn a3))))) L2 c s)) rfl hc h (by omega)) hc ?_
        refine dd_Rn.se (cf := (126, [.ref 148, .int a1, .int a2, .int a3, .int a4], [], sM Ln (dd_u I2 160 (upd (I2 160) (tn (I2 149 (tn (((187 : Int32) + ((5 : Int32) * a1)) + 0)))) ((I2 160 (tn (I2 149 (tn (((187 : Int32) + ((5 : Int32) * a1)) + 0))))) ||| (I2 159 (tn a3))))) L2 c s)) ?_
        exact dd_Rn.go 2 (cf' := (44, [.ref 148, .int a1, .int a2, .int a3, .int (a4 + 1)], [], sM Ln (dd_u I2 160 (upd (I2 160) (tn (I2 149 (tn (((187 : Int32) + ((5 : Int32) * a1)) + 0)))) ((I2 160 (tn (I2 149 (tn (((187 : Int32) + ((5 : Int32) * a1)) + 0))))) ||| (I2 159 (tn a3))))) L2 c s)) rfl h (by omega)
      · have h := h.2 hc
        obtain ⟨hc, h⟩ := h
        refine dd_Rn.go 5 (cf' := (125, [.ref 148, .int a1, .int a2, .int a3, .int a4], [.int ((I2 160 (tn (I2 149 (tn (((187 : Int32) + ((5 : Int32) * a1)) + 0))))) ||| ((1 : Int32) <<< (a4 &&& 31))), .int (I2 149 (tn (((187 : Int32) + ((5 : Int32) * a1)) + 0))), .ref 160], sM Ln I2 L2 c s)) rfl ?_ (by omega)
        refine dd_Rn.ci (fun j0 => (125, [.ref 148, .int a1, .int a2, .int a3, .int a4], [.int ((I2 160 (tn (I2 149 (tn (((187 : Int32) + ((5 : Int32) * a1)) + 0))))) ||| ((1 : Int32) <<< (a4 &&& 31))), .int j0, .ref 160], sM Ln I2 L2 c s)) (fun j0 => (126, [.ref 148, .int a1, .int a2, .int a3, .int a4], [], sM Ln (dd_u I2 160 (upd (I2 160) (tn j0) ((I2 160 (tn (I2 149 (tn (((187 : Int32) + ((5 : Int32) * a1)) + 0))))) ||| ((1 : Int32) <<< (a4 &&& 31))))) L2 c s)) (fun j0 => 0 ≤ j0 ∧ tn j0 < 64) (I2 149 (tn (((187 : Int32) + ((5 : Int32) * a1)) + 0))) (fun j0 hc h => dd_Rn.chk 0 (c := 0 ≤ j0 ∧ tn j0 < 64) (A := (126, [.ref 148, .int a1, .int a2, .int a3, .int a4], [], sM Ln (dd_u I2 160 (upd (I2 160) (tn j0) ((I2 160 (tn (I2 149 (tn (((187 : Int32) + ((5 : Int32) * a1)) + 0))))) ||| ((1 : Int32) <<< (a4 &&& 31))))) L2 c s)) rfl hc h (by omega)) hc ?_
        refine dd_Rn.se (cf := (126, [.ref 148, .int a1, .int a2, .int a3, .int a4], [], sM Ln (dd_u I2 160 (upd (I2 160) (tn (I2 149 (tn (((187 : Int32) + ((5 : Int32) * a1)) + 0)))) ((I2 160 (tn (I2 149 (tn (((187 : Int32) + ((5 : Int32) * a1)) + 0))))) ||| ((1 : Int32) <<< (a4 &&& 31))))) L2 c s)) ?_
        exact dd_Rn.go 2 (cf' := (44, [.ref 148, .int a1, .int a2, .int a3, .int (a4 + 1)], [], sM Ln (dd_u I2 160 (upd (I2 160) (tn (I2 149 (tn (((187 : Int32) + ((5 : Int32) * a1)) + 0)))) ((I2 160 (tn (I2 149 (tn (((187 : Int32) + ((5 : Int32) * a1)) + 0))))) ||| ((1 : Int32) <<< (a4 &&& 31))))) L2 c s)) rfl h (by omega)

theorem w_X11_anyNote_140 {Ln d c s : Nat} {I : Nat → Nat → Int32} {L : Nat → Nat → Int64} {Q : dd_O → Prop} {a1 a2 a3 : Int32} {a4 : Value} (hd : 28 ≤ d) (h : (((64 : Int32) ≤ a3 → dd_Ev (d - 1) m_X11_beatEnds [.ref 148] (sM Ln I L c s) (dd_RV Ln c s (fun I1 L1 => Q (none, .null, sM Ln I1 L1 c s)))) ∧ (¬ ((64 : Int32) ≤ a3) → ((0 ≤ a3 ∧ tn a3 < 64) ∧ ((0 ≤ a3 ∧ tn a3 < 64) ∧ dd_Rn d m_X11_anyNote (140, [.ref 148, .int a1, .int a2, .int (a3 + 1), a4], [], sM Ln (dd_u I 159 (upd (I 159) (tn a3) (I 160 (tn a3)))) L c s) Q))))) : dd_Rn d m_X11_anyNote (140, [.ref 148, .int a1, .int a2, .int a3, a4], [], sM Ln I L c s) Q := by
  obtain ⟨e, rfl⟩ : ∃ e, d = e + 16 := ⟨d - 16, by omega⟩
  refine dd_Rn.ite 2 (c := (64 : Int32) ≤ a3) (A := (164, [.ref 148, .int a1, .int a2, .int a3, a4], [], sM Ln I L c s)) (B := (146, [.ref 148, .int a1, .int a2, .int a3, a4], [], sM Ln I L c s)) rfl (fun hc => ?_) (fun hc => ?_) (by omega)
  · have h := h.1 hc
    refine dd_Rn.cV 1 (pc := 165) (ls := [.ref 148, .int a1, .int a2, .int a3, a4]) (st := [.ref 148]) (x := m_X11_beatEnds) (as := [.ref 148]) (rest := []) rfl rfl rfl rfl h ?_
    intro I1 L1 h
    show dd_Rn (e + 16) m_X11_anyNote (168, [.ref 148, .int a1, .int a2, .int a3, a4], [], sM Ln I1 L1 c s) _
    exact dd_Rn.retK 0 (pc := 168) (ls := [.ref 148, .int a1, .int a2, .int a3, a4]) (st := []) (M := sM Ln I1 L1 c s) (o := (none, .null, sM Ln I1 L1 c s)) rfl rfl h (by omega)
  · have h := h.2 hc
    obtain ⟨hc, h⟩ := h
    refine dd_Rn.chk 6 (c := 0 ≤ a3 ∧ tn a3 < 64) (A := (157, [.ref 148, .int a1, .int a2, .int a3, a4], [.int (I 160 (tn a3)), .int a3, .ref 159], sM Ln I L c s)) rfl hc ?_ (by omega)
    obtain ⟨hc, h⟩ := h
    refine dd_Rn.chk 0 (c := 0 ≤ a3 ∧ tn a3 < 64) (A := (158, [.ref 148, .int a1, .int a2, .int a3, a4], [], sM Ln (dd_u I 159 (upd (I 159) (tn a3) (I 160 (tn a3)))) L c s)) rfl hc ?_ (by omega)
    exact dd_Rn.go 2 (cf' := (140, [.ref 148, .int a1, .int a2, .int (a3 + 1), a4], [], sM Ln (dd_u I 159 (upd (I 159) (tn a3) (I 160 (tn a3)))) L c s)) rfl h (by omega)

theorem w_X11_startsAt_0 {Ln d c s : Nat} {I : Nat → Nat → Int32} {L : Nat → Nat → Int64} {Q : dd_O → Prop} {a1 : Int32} (hd : 28 ≤ d) (h : dd_Ev (d - 1) m_X11_keepsAll [.ref 148] (sM Ln I L c s) (dd_RV Ln c s (fun I1 L1 => dd_Rn d m_X11_startsAt (6, [.ref 148, .int a1, .int 0], [], sM Ln I1 L1 c s) Q))) : dd_Ev d m_X11_startsAt [.ref 148, .int a1] (sM Ln I L c s) Q := by
  obtain ⟨e, rfl⟩ : ∃ e, d = e + 16 := ⟨d - 16, by omega⟩
  show dd_Rn (e + 16) m_X11_startsAt (0, [.ref 148, .int a1, .null], [], sM Ln I L c s) Q
  refine dd_Rn.cV 1 (pc := 1) (ls := [.ref 148, .int a1, .null]) (st := [.ref 148]) (x := m_X11_keepsAll) (as := [.ref 148]) (rest := []) rfl rfl rfl rfl h ?_
  intro I1 L1 h
  show dd_Rn (e + 16) m_X11_startsAt (4, [.ref 148, .int a1, .null], [], sM Ln I1 L1 c s) _
  exact dd_Rn.go 2 (cf' := (6, [.ref 148, .int a1, .int 0], [], sM Ln I1 L1 c s)) rfl h (by omega)

theorem w_X11_startsAt_6 {Ln d c s : Nat} {I : Nat → Nat → Int32} {L : Nat → Nat → Int64} {Q : dd_O → Prop} {a1 a2 : Int32} (hd : 28 ≤ d) (h : (((64 : Int32) ≤ a2 → ((0 ≤ ((187 : Int32) + ((5 : Int32) * a1)) + 0 ∧ tn (((187 : Int32) + ((5 : Int32) * a1)) + 0) < 2220) ∧ ((0 ≤ I 149 (tn (((187 : Int32) + ((5 : Int32) * a1)) + 0)) ∧ tn (I 149 (tn (((187 : Int32) + ((5 : Int32) * a1)) + 0))) < 64) ∧ Q (none, .null, sM Ln (dd_u I 159 (upd (I 159) (tn (I 149 (tn (((187 : Int32) + ((5 : Int32) * a1)) + 0)))) 1)) L c s)))) ∧ (¬ ((64 : Int32) ≤ a2) → ((0 ≤ a2 ∧ tn a2 < 64) ∧ dd_Rn d m_X11_startsAt (6, [.ref 148, .int a1, .int (a2 + 1)], [], sM Ln (dd_u I 159 (upd (I 159) (tn a2) 0)) L c s) Q)))) : dd_Rn d m_X11_startsAt (6, [.ref 148, .int a1, .int a2], [], sM Ln I L c s) Q := by
  obtain ⟨e, rfl⟩ : ∃ e, d = e + 16 := ⟨d - 16, by omega⟩
  refine dd_Rn.ite 2 (c := (64 : Int32) ≤ a2) (A := (25, [.ref 148, .int a1, .int a2], [], sM Ln I L c s)) (B := (12, [.ref 148, .int a1, .int a2], [], sM Ln I L c s)) rfl (fun hc => ?_) (fun hc => ?_) (by omega)
  · have h := h.1 hc
    refine dd_Rn.sub 5 (pc := 32) (ls := [.ref 148, .int a1, .int a2]) (st := [.int 0, .int a1, .ref 148, .ref 159]) (M := sM Ln I L c s) (x := m_X11_of) (as := [.ref 148, .int a1, .int 0]) (rest := [.ref 159]) rfl rfl rfl rfl ?_
    show dd_Rn (e + 15) m_X11_of (0, [.ref 148, .int a1, .int 0], [], sM Ln I L c s) _
    refine dd_Rn.sub 4 (pc := 6) (ls := [.ref 148, .int a1, .int 0]) (st := [.int 0, .int a1, .ref 149]) (M := sM Ln I L c s) (x := m_X11_at) (as := [.int a1, .int 0]) (rest := [.ref 149]) rfl rfl rfl rfl ?_
    show dd_Rn (e + 14) m_X11_at (0, [.int a1, .int 0], [], sM Ln I L c s) _
    refine dd_Rn.retK 7 (pc := 9) (ls := [.int a1, .int 0]) (st := [.int (((187 : Int32) + ((5 : Int32) * a1)) + 0)]) (M := sM Ln I L c s) (o := (none, .int (((187 : Int32) + ((5 : Int32) * a1)) + 0), sM Ln I L c s)) rfl rfl (dd_Af.ret rfl ?_) (by omega)
    show dd_Rn (e + 15) m_X11_of (9, [.ref 148, .int a1, .int 0], [.int (((187 : Int32) + ((5 : Int32) * a1)) + 0), .ref 149], sM Ln I L c s) _
    obtain ⟨hc, h⟩ := h
    refine dd_Rn.ci (fun j0 => (9, [.ref 148, .int a1, .int 0], [.int j0, .ref 149], sM Ln I L c s)) (fun j0 => (10, [.ref 148, .int a1, .int 0], [.int (I 149 (tn j0))], sM Ln I L c s)) (fun j0 => 0 ≤ j0 ∧ tn j0 < 2220) (((187 : Int32) + ((5 : Int32) * a1)) + 0) (fun j0 hc h => dd_Rn.chk 0 (c := 0 ≤ j0 ∧ tn j0 < 2220) (A := (10, [.ref 148, .int a1, .int 0], [.int (I 149 (tn j0))], sM Ln I L c s)) rfl hc h (by omega)) hc ?_
    refine dd_Rn.se (cf := (10, [.ref 148, .int a1, .int 0], [.int (I 149 (tn (((187 : Int32) + ((5 : Int32) * a1)) + 0)))], sM Ln I L c s)) ?_
    refine dd_Rn.retK 0 (pc := 10) (ls := [.ref 148, .int a1, .int 0]) (st := [.int (I 149 (tn (((187 : Int32) + ((5 : Int32) * a1)) + 0)))]) (M := sM Ln I L c s) (o := (none, .int (I 149 (tn (((187 : Int32) + ((5 : Int32) * a1)) + 0))), sM Ln I L c s)) rfl rfl (dd_Af.ret rfl ?_) (by omega)
    show dd_Rn (e + 16) m_X11_startsAt (35, [.ref 148, .int a1, .int a2], [.int (I 149 (tn (((187 : Int32) + ((5 : Int32) * a1)) + 0))), .ref 159], sM Ln I L c s) _
    obtain ⟨hc, h⟩ := h
    refine dd_Rn.go 1 (cf' := (36, [.ref 148, .int a1, .int a2], [.int 1, .int (I 149 (tn (((187 : Int32) + ((5 : Int32) * a1)) + 0))), .ref 159], sM Ln I L c s)) rfl ?_ (by omega)
    refine dd_Rn.ci (fun j0 => (36, [.ref 148, .int a1, .int a2], [.int 1, .int j0, .ref 159], sM Ln I L c s)) (fun j0 => (37, [.ref 148, .int a1, .int a2], [], sM Ln (dd_u I 159 (upd (I 159) (tn j0) 1)) L c s)) (fun j0 => 0 ≤ j0 ∧ tn j0 < 64) (I 149 (tn (((187 : Int32) + ((5 : Int32) * a1)) + 0))) (fun j0 hc h => dd_Rn.chk 0 (c := 0 ≤ j0 ∧ tn j0 < 64) (A := (37, [.ref 148, .int a1, .int a2], [], sM Ln (dd_u I 159 (upd (I 159) (tn j0) 1)) L c s)) rfl hc h (by omega)) hc ?_
    refine dd_Rn.se (cf := (37, [.ref 148, .int a1, .int a2], [], sM Ln (dd_u I 159 (upd (I 159) (tn (I 149 (tn (((187 : Int32) + ((5 : Int32) * a1)) + 0)))) 1)) L c s)) ?_
    exact dd_Rn.retK 0 (pc := 37) (ls := [.ref 148, .int a1, .int a2]) (st := []) (M := sM Ln (dd_u I 159 (upd (I 159) (tn (I 149 (tn (((187 : Int32) + ((5 : Int32) * a1)) + 0)))) 1)) L c s) (o := (none, .null, sM Ln (dd_u I 159 (upd (I 159) (tn (I 149 (tn (((187 : Int32) + ((5 : Int32) * a1)) + 0)))) 1)) L c s)) rfl rfl h (by omega)
  · have h := h.2 hc
    obtain ⟨hc, h⟩ := h
    refine dd_Rn.chk 4 (c := 0 ≤ a2 ∧ tn a2 < 64) (A := (19, [.ref 148, .int a1, .int a2], [], sM Ln (dd_u I 159 (upd (I 159) (tn a2) 0)) L c s)) rfl hc ?_ (by omega)
    exact dd_Rn.go 2 (cf' := (6, [.ref 148, .int a1, .int (a2 + 1)], [], sM Ln (dd_u I 159 (upd (I 159) (tn a2) 0)) L c s)) rfl h (by omega)

theorem w_X11_called_0 {Ln d c s : Nat} {I : Nat → Nat → Int32} {L : Nat → Nat → Int64} {Q : dd_O → Prop} {a1 a2 : Int32} (hd : 28 ≤ d) (h : dd_Ev (d - 1) m_X11_startsAt [.ref 148, .int a1] (sM Ln I L c s) (dd_RV Ln c s (fun I1 L1 => dd_Rn d m_X11_called (18, [.ref 148, .int a1, .int a2, .int (-1), .int (I1 149 4), .int 0], [], sM Ln I1 L1 c s) Q))) : dd_Ev d m_X11_called [.ref 148, .int a1, .int a2] (sM Ln I L c s) Q := by
  obtain ⟨e, rfl⟩ : ∃ e, d = e + 16 := ⟨d - 16, by omega⟩
  show dd_Rn (e + 16) m_X11_called (0, [.ref 148, .int a1, .int a2, .null, .null, .null], [], sM Ln I L c s) Q
  refine dd_Rn.cV 4 (pc := 4) (ls := [.ref 148, .int a1, .int a2, .int (-1), .null, .null]) (st := [.int a1, .ref 148]) (x := m_X11_startsAt) (as := [.ref 148, .int a1]) (rest := []) rfl rfl rfl rfl h ?_
  intro I1 L1 h
  show dd_Rn (e + 16) m_X11_called (7, [.ref 148, .int a1, .int a2, .int (-1), .null, .null], [], sM Ln I1 L1 c s) _
  exact dd_Rn.go 7 (cf' := (18, [.ref 148, .int a1, .int a2, .int (-1), .int (I1 149 4), .int 0], [], sM Ln I1 L1 c s)) rfl h (by omega)

theorem w_X11_called_18 {Ln d c s : Nat} {I : Nat → Nat → Int32} {L : Nat → Nat → Int64} {Q : dd_O → Prop} {a1 a2 a3 a4 a5 : Int32} (hd : 28 ≤ d) (h : (((64 : Int32) < a5 → dd_Ev (d - 1) m_X11_bringsBack [.ref 148] (sM Ln I L c s) (dd_RV Ln c s (fun I1 L1 => Q (none, .int a3, sM Ln I1 L1 c s)))) ∧ (¬ ((64 : Int32) < a5) → ((a3 = (-1) → ((0 ≤ a4 ∧ tn a4 < 64) ∧ ((I 159 (tn a4) = 0 → ((0 ≤ a4 ∧ tn a4 < 64) ∧ ((I 159 (tn a4) = 0 → ((a5 = 0 → dd_Ev (d - 1) m_X11_anyNote [.ref 148, .int a1, .int 1] (sM Ln I L c s) (dd_RV Ln c s (fun I2 L2 => dd_Rn d m_X11_called (18, [.ref 148, .int a1, .int a2, .int a3, .int a4, .int (a5 + 1)], [], sM Ln I2 L2 c s) Q))) ∧ (¬ (a5 = 0) → dd_Ev (d - 1) m_X11_anyNote [.ref 148, .int a1, .int 0] (sM Ln I L c s) (dd_RV Ln c s (fun I3 L3 => dd_Rn d m_X11_called (18, [.ref 148, .int a1, .int a2, .int a3, .int a4, .int (a5 + 1)], [], sM Ln I3 L3 c s) Q))))) ∧ (¬ (I 159 (tn a4) = 0) → dd_Ev (d - 1) m_X11_bringsBack [.ref 148] (sM Ln I L c s) (dd_RV Ln c s (fun I4 L4 => Q (none, .int a3, sM Ln I4 L4 c s))))))) ∧ (¬ (I 159 (tn a4) = 0) → ((a2 = 0 → ((0 ≤ a4 ∧ tn a4 < 64) ∧ ((I 159 (tn a4) = 0 → ((a5 = 0 → dd_Ev (d - 1) m_X11_anyNote [.ref 148, .int a1, .int 1] (sM Ln I L c s) (dd_RV Ln c s (fun I5 L5 => dd_Rn d m_X11_called (18, [.ref 148, .int a1, .int a2, .int a5, .int a4, .int (a5 + 1)], [], sM Ln I5 L5 c s) Q))) ∧ (¬ (a5 = 0) → dd_Ev (d - 1) m_X11_anyNote [.ref 148, .int a1, .int 0] (sM Ln I L c s) (dd_RV Ln c s (fun I6 L6 => dd_Rn d m_X11_called (18, [.ref 148, .int a1, .int a2, .int a5, .int a4, .int (a5 + 1)], [], sM Ln I6 L6 c s) Q))))) ∧ (¬ (I 159 (tn a4) = 0) → dd_Ev (d - 1) m_X11_bringsBack [.ref 148] (sM Ln I L c s) (dd_RV Ln c s (fun I7 L7 => Q (none, .int a5, sM Ln I7 L7 c s))))))) ∧ (¬ (a2 = 0) → ((a5 = 0 → ((0 ≤ a4 ∧ tn a4 < 64) ∧ ((I 159 (tn a4) = 0 → ((a5 = 0 → dd_Ev (d - 1) m_X11_anyNote [.ref 148, .int a1, .int 1] (sM Ln I L c s) (dd_RV Ln c s (fun I8 L8 => dd_Rn d m_X11_called (18, [.ref 148, .int a1, .int a2, .int (-1), .int a4, .int (a5 + 1)], [], sM Ln I8 L8 c s) Q))) ∧ (¬ (a5 = 0) → dd_Ev (d - 1) m_X11_anyNote [.ref 148, .int a1, .int 0] (sM Ln I L c s) (dd_RV Ln c s (fun I9 L9 => dd_Rn d m_X11_called (18, [.ref 148, .int a1, .int a2, .int (-1), .int a4, .int (a5 + 1)], [], sM Ln I9 L9 c s) Q))))) ∧ (¬ (I 159 (tn a4) = 0) → dd_Ev (d - 1) m_X11_bringsBack [.ref 148] (sM Ln I L c s) (dd_RV Ln c s (fun I10 L10 => Q (none, .int (-1), sM Ln I10 L10 c s))))))) ∧ (¬ (a5 = 0) → ((0 ≤ a4 ∧ tn a4 < 64) ∧ dd_Ev (d - 1) m_J6_numberOfTrailingZeros_0f7a4 [.int (I 159 (tn a4))] (sM Ln I L c s) (dd_RI Ln c s (fun x11 I11 L11 => ((0 ≤ a4 ∧ tn a4 < 64) ∧ ((I11 159 (tn a4) = 0 → ((a5 = 0 → dd_Ev (d - 1) m_X11_anyNote [.ref 148, .int a1, .int 1] (sM Ln I11 L11 c s) (dd_RV Ln c s (fun I12 L12 => dd_Rn d m_X11_called (18, [.ref 148, .int a1, .int a2, .int x11, .int a4, .int (a5 + 1)], [], sM Ln I12 L12 c s) Q))) ∧ (¬ (a5 = 0) → dd_Ev (d - 1) m_X11_anyNote [.ref 148, .int a1, .int 0] (sM Ln I11 L11 c s) (dd_RV Ln c s (fun I13 L13 => dd_Rn d m_X11_called (18, [.ref 148, .int a1, .int a2, .int x11, .int a4, .int (a5 + 1)], [], sM Ln I13 L13 c s) Q))))) ∧ (¬ (I11 159 (tn a4) = 0) → dd_Ev (d - 1) m_X11_bringsBack [.ref 148] (sM Ln I11 L11 c s) (dd_RV Ln c s (fun I14 L14 => Q (none, .int x11, sM Ln I14 L14 c s))))))))))))))))) ∧ (¬ (a3 = (-1)) → dd_Ev (d - 1) m_X11_bringsBack [.ref 148] (sM Ln I L c s) (dd_RV Ln c s (fun I15 L15 => Q (none, .int a3, sM Ln I15 L15 c s)))))))) : dd_Rn d m_X11_called (18, [.ref 148, .int a1, .int a2, .int a3, .int a4, .int a5], [], sM Ln I L c s) Q := by
  obtain ⟨e, rfl⟩ : ∃ e, d = e + 16 := ⟨d - 16, by omega⟩
  refine dd_Rn.ite 2 (c := (64 : Int32) < a5) (A := (103, [.ref 148, .int a1, .int a2, .int a3, .int a4, .int a5], [], sM Ln I L c s)) (B := (25, [.ref 148, .int a1, .int a2, .int a3, .int a4, .int a5], [], sM Ln I L c s)) rfl (fun hc => ?_) (fun hc => ?_) (by omega)
  · have h := h.1 hc
    refine dd_Rn.cV 1 (pc := 104) (ls := [.ref 148, .int a1, .int a2, .int a3, .int a4, .int a5]) (st := [.ref 148]) (x := m_X11_bringsBack) (as := [.ref 148]) (rest := []) rfl rfl rfl rfl h ?_
    intro I1 L1 h
    show dd_Rn (e + 16) m_X11_called (107, [.ref 148, .int a1, .int a2, .int a3, .int a4, .int a5], [], sM Ln I1 L1 c s) _
    exact dd_Rn.retK 1 (pc := 108) (ls := [.ref 148, .int a1, .int a2, .int a3, .int a4, .int a5]) (st := [.int a3]) (M := sM Ln I1 L1 c s) (o := (none, .int a3, sM Ln I1 L1 c s)) rfl rfl h (by omega)
  · have h := h.2 hc
    refine dd_Rn.ite 2 (c := a3 = (-1)) (A := (30, [.ref 148, .int a1, .int a2, .int a3, .int a4, .int a5], [], sM Ln I L c s)) (B := (103, [.ref 148, .int a1, .int a2, .int a3, .int a4, .int a5], [], sM Ln I L c s)) rfl (fun hc => ?_) (fun hc => ?_) (by omega)
    · have h := h.1 hc
      obtain ⟨hc, h⟩ := h
      refine dd_Rn.chk 3 (c := 0 ≤ a4 ∧ tn a4 < 64) (A := (37, [.ref 148, .int a1, .int a2, .int a3, .int a4, .int a5], [.int (I 159 (tn a4))], sM Ln I L c s)) rfl hc ?_ (by omega)
      refine dd_Rn.ite 0 (c := I 159 (tn a4) = 0) (A := (69, [.ref 148, .int a1, .int a2, .int a3, .int a4, .int a5], [], sM Ln I L c s)) (B := (40, [.ref 148, .int a1, .int a2, .int a3, .int a4, .int a5], [], sM Ln I L c s)) rfl (fun hc => ?_) (fun hc => ?_) (by omega)
      · have h := h.1 hc
        obtain ⟨hc, h⟩ := h
        refine dd_Rn.chk 3 (c := 0 ≤ a4 ∧ tn a4 < 64) (A := (76, [.ref 148, .int a1, .int a2, .int a3, .int a4, .int a5], [.int (I 159 (tn a4))], sM Ln I L c s)) rfl hc ?_ (by omega)
        refine dd_Rn.ite 0 (c := I 159 (tn a4) = 0) (A := (82, [.ref 148, .int a1, .int a2, .int a3, .int a4, .int a5], [], sM Ln I L c s)) (B := (79, [.ref 148, .int a1, .int a2, .int a3, .int a4, .int a5], [], sM Ln I L c s)) rfl (fun hc => ?_) (fun hc => ?_) (by omega)
        · have h := h.1 hc
          refine dd_Rn.ite 3 (c := a5 = 0) (A := (89, [.ref 148, .int a1, .int a2, .int a3, .int a4, .int a5], [.int a1, .ref 148], sM Ln I L c s)) (B := (93, [.ref 148, .int a1, .int a2, .int a3, .int a4, .int a5], [.int a1, .ref 148], sM Ln I L c s)) rfl (fun hc => ?_) (fun hc => ?_) (by omega)
          · have h := h.1 hc
            refine dd_Rn.cV 2 (pc := 94) (ls := [.ref 148, .int a1, .int a2, .int a3, .int a4, .int a5]) (st := [.int 1, .int a1, .ref 148]) (x := m_X11_anyNote) (as := [.ref 148, .int a1, .int 1]) (rest := []) rfl rfl rfl rfl h ?_
            intro I2 L2 h
            show dd_Rn (e + 16) m_X11_called (97, [.ref 148, .int a1, .int a2, .int a3, .int a4, .int a5], [], sM Ln I2 L2 c s) _
            exact dd_Rn.go 2 (cf' := (18, [.ref 148, .int a1, .int a2, .int a3, .int a4, .int (a5 + 1)], [], sM Ln I2 L2 c s)) rfl h (by omega)
          · have h := h.2 hc
            refine dd_Rn.cV 1 (pc := 94) (ls := [.ref 148, .int a1, .int a2, .int a3, .int a4, .int a5]) (st := [.int 0, .int a1, .ref 148]) (x := m_X11_anyNote) (as := [.ref 148, .int a1, .int 0]) (rest := []) rfl rfl rfl rfl h ?_
            intro I3 L3 h
            show dd_Rn (e + 16) m_X11_called (97, [.ref 148, .int a1, .int a2, .int a3, .int a4, .int a5], [], sM Ln I3 L3 c s) _
            exact dd_Rn.go 2 (cf' := (18, [.ref 148, .int a1, .int a2, .int a3, .int a4, .int (a5 + 1)], [], sM Ln I3 L3 c s)) rfl h (by omega)
        · have h := h.2 hc
          refine dd_Rn.cV 2 (pc := 104) (ls := [.ref 148, .int a1, .int a2, .int a3, .int a4, .int a5]) (st := [.ref 148]) (x := m_X11_bringsBack) (as := [.ref 148]) (rest := []) rfl rfl rfl rfl h ?_
          intro I4 L4 h
          show dd_Rn (e + 16) m_X11_called (107, [.ref 148, .int a1, .int a2, .int a3, .int a4, .int a5], [], sM Ln I4 L4 c s) _
          exact dd_Rn.retK 1 (pc := 108) (ls := [.ref 148, .int a1, .int a2, .int a3, .int a4, .int a5]) (st := [.int a3]) (M := sM Ln I4 L4 c s) (o := (none, .int a3, sM Ln I4 L4 c s)) rfl rfl h (by omega)
      · have h := h.2 hc
        refine dd_Rn.ite 1 (c := a2 = 0) (A := (44, [.ref 148, .int a1, .int a2, .int a3, .int a4, .int a5], [], sM Ln I L c s)) (B := (49, [.ref 148, .int a1, .int a2, .int a3, .int a4, .int a5], [], sM Ln I L c s)) rfl (fun hc => ?_) (fun hc => ?_) (by omega)
        · have h := h.1 hc
          obtain ⟨hc, h⟩ := h
          refine dd_Rn.chk 6 (c := 0 ≤ a4 ∧ tn a4 < 64) (A := (76, [.ref 148, .int a1, .int a2, .int a5, .int a4, .int a5], [.int (I 159 (tn a4))], sM Ln I L c s)) rfl hc ?_ (by omega)
          refine dd_Rn.ite 0 (c := I 159 (tn a4) = 0) (A := (82, [.ref 148, .int a1, .int a2, .int a5, .int a4, .int a5], [], sM Ln I L c s)) (B := (79, [.ref 148, .int a1, .int a2, .int a5, .int a4, .int a5], [], sM Ln I L c s)) rfl (fun hc => ?_) (fun hc => ?_) (by omega)
          · have h := h.1 hc
            refine dd_Rn.ite 3 (c := a5 = 0) (A := (89, [.ref 148, .int a1, .int a2, .int a5, .int a4, .int a5], [.int a1, .ref 148], sM Ln I L c s)) (B := (93, [.ref 148, .int a1, .int a2, .int a5, .int a4, .int a5], [.int a1, .ref 148], sM Ln I L c s)) rfl (fun hc => ?_) (fun hc => ?_) (by omega)
            · have h := h.1 hc
              refine dd_Rn.cV 2 (pc := 94) (ls := [.ref 148, .int a1, .int a2, .int a5, .int a4, .int a5]) (st := [.int 1, .int a1, .ref 148]) (x := m_X11_anyNote) (as := [.ref 148, .int a1, .int 1]) (rest := []) rfl rfl rfl rfl h ?_
              intro I5 L5 h
              show dd_Rn (e + 16) m_X11_called (97, [.ref 148, .int a1, .int a2, .int a5, .int a4, .int a5], [], sM Ln I5 L5 c s) _
              exact dd_Rn.go 2 (cf' := (18, [.ref 148, .int a1, .int a2, .int a5, .int a4, .int (a5 + 1)], [], sM Ln I5 L5 c s)) rfl h (by omega)
            · have h := h.2 hc
              refine dd_Rn.cV 1 (pc := 94) (ls := [.ref 148, .int a1, .int a2, .int a5, .int a4, .int a5]) (st := [.int 0, .int a1, .ref 148]) (x := m_X11_anyNote) (as := [.ref 148, .int a1, .int 0]) (rest := []) rfl rfl rfl rfl h ?_
              intro I6 L6 h
              show dd_Rn (e + 16) m_X11_called (97, [.ref 148, .int a1, .int a2, .int a5, .int a4, .int a5], [], sM Ln I6 L6 c s) _
              exact dd_Rn.go 2 (cf' := (18, [.ref 148, .int a1, .int a2, .int a5, .int a4, .int (a5 + 1)], [], sM Ln I6 L6 c s)) rfl h (by omega)
          · have h := h.2 hc
            refine dd_Rn.cV 2 (pc := 104) (ls := [.ref 148, .int a1, .int a2, .int a5, .int a4, .int a5]) (st := [.ref 148]) (x := m_X11_bringsBack) (as := [.ref 148]) (rest := []) rfl rfl rfl rfl h ?_
            intro I7 L7 h
            show dd_Rn (e + 16) m_X11_called (107, [.ref 148, .int a1, .int a2, .int a5, .int a4, .int a5], [], sM Ln I7 L7 c s) _
            exact dd_Rn.retK 1 (pc := 108) (ls := [.ref 148, .int a1, .int a2, .int a5, .int a4, .int a5]) (st := [.int a5]) (M := sM Ln I7 L7 c s) (o := (none, .int a5, sM Ln I7 L7 c s)) rfl rfl h (by omega)
        · have h := h.2 hc
          refine dd_Rn.ite 1 (c := a5 = 0) (A := (54, [.ref 148, .int a1, .int a2, .int a3, .int a4, .int a5], [], sM Ln I L c s)) (B := (58, [.ref 148, .int a1, .int a2, .int a3, .int a4, .int a5], [], sM Ln I L c s)) rfl (fun hc => ?_) (fun hc => ?_) (by omega)
          · have h := h.1 hc
            obtain ⟨hc, h⟩ := h
            refine dd_Rn.chk 6 (c := 0 ≤ a4 ∧ tn a4 < 64) (A := (76, [.ref 148, .int a1, .int a2, .int (-1), .int a4, .int a5], [.int (I 159 (tn a4))], sM Ln I L c s)) rfl hc ?_ (by omega)
            refine dd_Rn.ite 0 (c := I 159 (tn a4) = 0) (A := (82, [.ref 148, .int a1, .int a2, .int (-1), .int a4, .int a5], [], sM Ln I L c s)) (B := (79, [.ref 148, .int a1, .int a2, .int (-1), .int a4, .int a5], [], sM Ln I L c s)) rfl (fun hc => ?_) (fun hc => ?_) (by omega)
            · have h := h.1 hc
              refine dd_Rn.ite 3 (c := a5 = 0) (A := (89, [.ref 148, .int a1, .int a2, .int (-1), .int a4, .int a5], [.int a1, .ref 148], sM Ln I L c s)) (B := (93, [.ref 148, .int a1, .int a2, .int (-1), .int a4, .int a5], [.int a1, .ref 148], sM Ln I L c s)) rfl (fun hc => ?_) (fun hc => ?_) (by omega)
              · have h := h.1 hc
                refine dd_Rn.cV 2 (pc := 94) (ls := [.ref 148, .int a1, .int a2, .int (-1), .int a4, .int a5]) (st := [.int 1, .int a1, .ref 148]) (x := m_X11_anyNote) (as := [.ref 148, .int a1, .int 1]) (rest := []) rfl rfl rfl rfl h ?_
                intro I8 L8 h
                show dd_Rn (e + 16) m_X11_called (97, [.ref 148, .int a1, .int a2, .int (-1), .int a4, .int a5], [], sM Ln I8 L8 c s) _
                exact dd_Rn.go 2 (cf' := (18, [.ref 148, .int a1, .int a2, .int (-1), .int a4, .int (a5 + 1)], [], sM Ln I8 L8 c s)) rfl h (by omega)
              · have h := h.2 hc
                refine dd_Rn.cV 1 (pc := 94) (ls := [.ref 148, .int a1, .int a2, .int (-1), .int a4, .int a5]) (st := [.int 0, .int a1, .ref 148]) (x := m_X11_anyNote) (as := [.ref 148, .int a1, .int 0]) (rest := []) rfl rfl rfl rfl h ?_
                intro I9 L9 h
                show dd_Rn (e + 16) m_X11_called (97, [.ref 148, .int a1, .int a2, .int (-1), .int a4, .int a5], [], sM Ln I9 L9 c s) _
                exact dd_Rn.go 2 (cf' := (18, [.ref 148, .int a1, .int a2, .int (-1), .int a4, .int (a5 + 1)], [], sM Ln I9 L9 c s)) rfl h (by omega)
            · have h := h.2 hc
              refine dd_Rn.cV 2 (pc := 104) (ls := [.ref 148, .int a1, .int a2, .int (-1), .int a4, .int a5]) (st := [.ref 148]) (x := m_X11_bringsBack) (as := [.ref 148]) (rest := []) rfl rfl rfl rfl h ?_
              intro I10 L10 h
              show dd_Rn (e + 16) m_X11_called (107, [.ref 148, .int a1, .int a2, .int (-1), .int a4, .int a5], [], sM Ln I10 L10 c s) _
              exact dd_Rn.retK 1 (pc := 108) (ls := [.ref 148, .int a1, .int a2, .int (-1), .int a4, .int a5]) (st := [.int (-1)]) (M := sM Ln I10 L10 c s) (o := (none, .int (-1), sM Ln I10 L10 c s)) rfl rfl h (by omega)
          · have h := h.2 hc
            obtain ⟨hc, h⟩ := h
            refine dd_Rn.chk 3 (c := 0 ≤ a4 ∧ tn a4 < 64) (A := (65, [.ref 148, .int a1, .int a2, .int a3, .int a4, .int a5], [.int (I 159 (tn a4))], sM Ln I L c s)) rfl hc ?_ (by omega)
            refine dd_Rn.cI 0 (pc := 65) (ls := [.ref 148, .int a1, .int a2, .int a3, .int a4, .int a5]) (st := [.int (I 159 (tn a4))]) (x := m_J6_numberOfTrailingZeros_0f7a4) (as := [.int (I 159 (tn a4))]) (rest := []) rfl rfl rfl rfl h ?_
            intro x11 I11 L11 h
            show dd_Rn (e + 16) m_X11_called (68, [.ref 148, .int a1, .int a2, .int a3, .int a4, .int a5], [.int x11], sM Ln I11 L11 c s) _
            obtain ⟨hc, h⟩ := h
            refine dd_Rn.chk 4 (c := 0 ≤ a4 ∧ tn a4 < 64) (A := (76, [.ref 148, .int a1, .int a2, .int x11, .int a4, .int a5], [.int (I11 159 (tn a4))], sM Ln I11 L11 c s)) rfl hc ?_ (by omega)
            refine dd_Rn.ite 0 (c := I11 159 (tn a4) = 0) (A := (82, [.ref 148, .int a1, .int a2, .int x11, .int a4, .int a5], [], sM Ln I11 L11 c s)) (B := (79, [.ref 148, .int a1, .int a2, .int x11, .int a4, .int a5], [], sM Ln I11 L11 c s)) rfl (fun hc => ?_) (fun hc => ?_) (by omega)
            · have h := h.1 hc
              refine dd_Rn.ite 3 (c := a5 = 0) (A := (89, [.ref 148, .int a1, .int a2, .int x11, .int a4, .int a5], [.int a1, .ref 148], sM Ln I11 L11 c s)) (B := (93, [.ref 148, .int a1, .int a2, .int x11, .int a4, .int a5], [.int a1, .ref 148], sM Ln I11 L11 c s)) rfl (fun hc => ?_) (fun hc => ?_) (by omega)
              · have h := h.1 hc
                refine dd_Rn.cV 2 (pc := 94) (ls := [.ref 148, .int a1, .int a2, .int x11, .int a4, .int a5]) (st := [.int 1, .int a1, .ref 148]) (x := m_X11_anyNote) (as := [.ref 148, .int a1, .int 1]) (rest := []) rfl rfl rfl rfl h ?_
                intro I12 L12 h
                show dd_Rn (e + 16) m_X11_called (97, [.ref 148, .int a1, .int a2, .int x11, .int a4, .int a5], [], sM Ln I12 L12 c s) _
                exact dd_Rn.go 2 (cf' := (18, [.ref 148, .int a1, .int a2, .int x11, .int a4, .int (a5 + 1)], [], sM Ln I12 L12 c s)) rfl h (by omega)
              · have h := h.2 hc
                refine dd_Rn.cV 1 (pc := 94) (ls := [.ref 148, .int a1, .int a2, .int x11, .int a4, .int a5]) (st := [.int 0, .int a1, .ref 148]) (x := m_X11_anyNote) (as := [.ref 148, .int a1, .int 0]) (rest := []) rfl rfl rfl rfl h ?_
                intro I13 L13 h
                show dd_Rn (e + 16) m_X11_called (97, [.ref 148, .int a1, .int a2, .int x11, .int a4, .int a5], [], sM Ln I13 L13 c s) _
                exact dd_Rn.go 2 (cf' := (18, [.ref 148, .int a1, .int a2, .int x11, .int a4, .int (a5 + 1)], [], sM Ln I13 L13 c s)) rfl h (by omega)
            · have h := h.2 hc
              refine dd_Rn.cV 2 (pc := 104) (ls := [.ref 148, .int a1, .int a2, .int x11, .int a4, .int a5]) (st := [.ref 148]) (x := m_X11_bringsBack) (as := [.ref 148]) (rest := []) rfl rfl rfl rfl h ?_
              intro I14 L14 h
              show dd_Rn (e + 16) m_X11_called (107, [.ref 148, .int a1, .int a2, .int x11, .int a4, .int a5], [], sM Ln I14 L14 c s) _
              exact dd_Rn.retK 1 (pc := 108) (ls := [.ref 148, .int a1, .int a2, .int x11, .int a4, .int a5]) (st := [.int x11]) (M := sM Ln I14 L14 c s) (o := (none, .int x11, sM Ln I14 L14 c s)) rfl rfl h (by omega)
    · have h := h.2 hc
      refine dd_Rn.cV 1 (pc := 104) (ls := [.ref 148, .int a1, .int a2, .int a3, .int a4, .int a5]) (st := [.ref 148]) (x := m_X11_bringsBack) (as := [.ref 148]) (rest := []) rfl rfl rfl rfl h ?_
      intro I15 L15 h
      show dd_Rn (e + 16) m_X11_called (107, [.ref 148, .int a1, .int a2, .int a3, .int a4, .int a5], [], sM Ln I15 L15 c s) _
      exact dd_Rn.retK 1 (pc := 108) (ls := [.ref 148, .int a1, .int a2, .int a3, .int a4, .int a5]) (st := [.int a3]) (M := sM Ln I15 L15 c s) (o := (none, .int a3, sM Ln I15 L15 c s)) rfl rfl h (by omega)

theorem w_X11_calls_0 {Ln d c s : Nat} {I : Nat → Nat → Int32} {L : Nat → Nat → Int64} {Q : dd_O → Prop} {a1 : Int32} (hd : 28 ≤ d) (h : ((a1 < 0 → Q (none, .int 0, sM Ln (dd_u (dd_u I 148 (upd (I 148) 0 0)) 148 (upd (upd (I 148) 0 0) 0 1)) L c s)) ∧ (¬ (a1 < 0) → (((I 149 1) - 1 < a1 → Q (none, .int 0, sM Ln (dd_u (dd_u I 148 (upd (I 148) 0 0)) 148 (upd (upd (I 148) 0 0) 0 1)) L c s)) ∧ (¬ ((I 149 1) - 1 < a1) → dd_Ev (d - 1) m_X11_called [.ref 148, .int a1, .int 0] (sM Ln (dd_u I 148 (upd (I 148) 0 0)) L c s) (dd_RI Ln c s (fun x1 I1 L1 => Q (none, .int x1, sM Ln I1 L1 c s)))))))) : dd_Ev d m_X11_calls [.ref 148, .int a1] (sM Ln I L c s) Q := by
  obtain ⟨e, rfl⟩ : ∃ e, d = e + 16 := ⟨d - 16, by omega⟩
  show dd_Rn (e + 16) m_X11_calls (0, [.ref 148, .int a1], [], sM Ln I L c s) Q
  refine dd_Rn.sub 6 (pc := 8) (ls := [.ref 148, .int a1]) (st := [.int a1, .ref 148, .ref 148]) (M := sM Ln (dd_u I 148 (upd (I 148) 0 0)) L c s) (x := m_X11_noBoy) (as := [.ref 148, .int a1]) (rest := [.ref 148]) rfl rfl rfl rfl ?_
  show dd_Rn (e + 15) m_X11_noBoy (0, [.ref 148, .int a1], [], sM Ln (dd_u I 148 (upd (I 148) 0 0)) L c s) _
  refine dd_Rn.sub 3 (pc := 3) (ls := [.ref 148, .int a1]) (st := [.ref 148, .int 0, .int a1]) (M := sM Ln (dd_u I 148 (upd (I 148) 0 0)) L c s) (x := m_X11_boys) (as := [.ref 148]) (rest := [.int 0, .int a1]) rfl rfl rfl rfl ?_
  show dd_Rn (e + 14) m_X11_boys (0, [.ref 148], [], sM Ln (dd_u I 148 (upd (I 148) 0 0)) L c s) _
  refine dd_Rn.retK 4 (pc := 6) (ls := [.ref 148]) (st := [.int (I 149 1)]) (M := sM Ln (dd_u I 148 (upd (I 148) 0 0)) L c s) (o := (none, .int (I 149 1), sM Ln (dd_u I 148 (upd (I 148) 0 0)) L c s)) rfl rfl (dd_Af.ret rfl ?_) (by omega)
  show dd_Rn (e + 15) m_X11_noBoy (6, [.ref 148, .int a1], [.int (I 149 1), .int 0, .int a1], sM Ln (dd_u I 148 (upd (I 148) 0 0)) L c s) _
  refine dd_Rn.sub 2 (pc := 8) (ls := [.ref 148, .int a1]) (st := [.int ((I 149 1) - 1), .int 0, .int a1]) (M := sM Ln (dd_u I 148 (upd (I 148) 0 0)) L c s) (x := m_X11_in) (as := [.int a1, .int 0, .int ((I 149 1) - 1)]) (rest := []) rfl rfl rfl rfl ?_
  show dd_Rn (e + 14) m_X11_in (0, [.int a1, .int 0, .int ((I 149 1) - 1)], [], sM Ln (dd_u I 148 (upd (I 148) 0 0)) L c s) _
  refine dd_Rn.ite 2 (c := a1 < 0) (A := (14, [.int a1, .int 0, .int ((I 149 1) - 1)], [], sM Ln (dd_u I 148 (upd (I 148) 0 0)) L c s)) (B := (5, [.int a1, .int 0, .int ((I 149 1) - 1)], [], sM Ln (dd_u I 148 (upd (I 148) 0 0)) L c s)) rfl (fun hc => ?_) (fun hc => ?_) (by omega)
  · have h := h.1 hc
    refine dd_Rn.retK 1 (pc := 15) (ls := [.int a1, .int 0, .int ((I 149 1) - 1)]) (st := [.int 0]) (M := sM Ln (dd_u I 148 (upd (I 148) 0 0)) L c s) (o := (none, .int 0, sM Ln (dd_u I 148 (upd (I 148) 0 0)) L c s)) rfl rfl (dd_Af.ret rfl ?_) (by omega)
    show dd_Rn (e + 15) m_X11_noBoy (11, [.ref 148, .int a1], [.int 0], sM Ln (dd_u I 148 (upd (I 148) 0 0)) L c s) _
    refine dd_Rn.retK 3 (pc := 19) (ls := [.ref 148, .int a1]) (st := [.int 1]) (M := sM Ln (dd_u I 148 (upd (I 148) 0 0)) L c s) (o := (none, .int 1, sM Ln (dd_u I 148 (upd (I 148) 0 0)) L c s)) rfl rfl (dd_Af.ret rfl ?_) (by omega)
    show dd_Rn (e + 16) m_X11_calls (11, [.ref 148, .int a1], [.int 1, .ref 148], sM Ln (dd_u I 148 (upd (I 148) 0 0)) L c s) _
    refine dd_Rn.sub 1 (pc := 12) (ls := [.ref 148, .int a1]) (st := [.int 1, .int 1, .ref 148]) (M := sM Ln (dd_u I 148 (upd (I 148) 0 0)) L c s) (x := m_X11_throwsIf) (as := [.ref 148, .int 1, .int 1]) (rest := []) rfl rfl rfl rfl ?_
    show dd_Rn (e + 15) m_X11_throwsIf (0, [.ref 148, .int 1, .int 1], [], sM Ln (dd_u I 148 (upd (I 148) 0 0)) L c s) _
    refine dd_Rn.retK 6 (pc := 10) (ls := [.ref 148, .int 1, .int 1]) (st := [.int 1]) (M := sM Ln (dd_u (dd_u I 148 (upd (I 148) 0 0)) 148 (upd (upd (I 148) 0 0) 0 1)) L c s) (o := (none, .int 1, sM Ln (dd_u (dd_u I 148 (upd (I 148) 0 0)) 148 (upd (upd (I 148) 0 0) 0 1)) L c s)) rfl rfl (dd_Af.ret rfl ?_) (by omega)
    show dd_Rn (e + 16) m_X11_calls (15, [.ref 148, .int a1], [.int 1], sM Ln (dd_u (dd_u I 148 (upd (I 148) 0 0)) 148 (upd (upd (I 148) 0 0) 0 1)) L c s) _
    exact dd_Rn.retK 3 (pc := 28) (ls := [.ref 148, .int a1]) (st := [.int 0]) (M := sM Ln (dd_u (dd_u I 148 (upd (I 148) 0 0)) 148 (upd (upd (I 148) 0 0) 0 1)) L c s) (o := (none, .int 0, sM Ln (dd_u (dd_u I 148 (upd (I 148) 0 0)) 148 (upd (upd (I 148) 0 0) 0 1)) L c s)) rfl rfl h (by omega)
  · have h := h.2 hc
    refine dd_Rn.ite 2 (c := (I 149 1) - 1 < a1) (A := (14, [.int a1, .int 0, .int ((I 149 1) - 1)], [], sM Ln (dd_u I 148 (upd (I 148) 0 0)) L c s)) (B := (10, [.int a1, .int 0, .int ((I 149 1) - 1)], [], sM Ln (dd_u I 148 (upd (I 148) 0 0)) L c s)) rfl (fun hc => ?_) (fun hc => ?_) (by omega)
    · have h := h.1 hc
      refine dd_Rn.retK 1 (pc := 15) (ls := [.int a1, .int 0, .int ((I 149 1) - 1)]) (st := [.int 0]) (M := sM Ln (dd_u I 148 (upd (I 148) 0 0)) L c s) (o := (none, .int 0, sM Ln (dd_u I 148 (upd (I 148) 0 0)) L c s)) rfl rfl (dd_Af.ret rfl ?_) (by omega)
      show dd_Rn (e + 15) m_X11_noBoy (11, [.ref 148, .int a1], [.int 0], sM Ln (dd_u I 148 (upd (I 148) 0 0)) L c s) _
      refine dd_Rn.retK 3 (pc := 19) (ls := [.ref 148, .int a1]) (st := [.int 1]) (M := sM Ln (dd_u I 148 (upd (I 148) 0 0)) L c s) (o := (none, .int 1, sM Ln (dd_u I 148 (upd (I 148) 0 0)) L c s)) rfl rfl (dd_Af.ret rfl ?_) (by omega)
      show dd_Rn (e + 16) m_X11_calls (11, [.ref 148, .int a1], [.int 1, .ref 148], sM Ln (dd_u I 148 (upd (I 148) 0 0)) L c s) _
      refine dd_Rn.sub 1 (pc := 12) (ls := [.ref 148, .int a1]) (st := [.int 1, .int 1, .ref 148]) (M := sM Ln (dd_u I 148 (upd (I 148) 0 0)) L c s) (x := m_X11_throwsIf) (as := [.ref 148, .int 1, .int 1]) (rest := []) rfl rfl rfl rfl ?_
      show dd_Rn (e + 15) m_X11_throwsIf (0, [.ref 148, .int 1, .int 1], [], sM Ln (dd_u I 148 (upd (I 148) 0 0)) L c s) _
      refine dd_Rn.retK 6 (pc := 10) (ls := [.ref 148, .int 1, .int 1]) (st := [.int 1]) (M := sM Ln (dd_u (dd_u I 148 (upd (I 148) 0 0)) 148 (upd (upd (I 148) 0 0) 0 1)) L c s) (o := (none, .int 1, sM Ln (dd_u (dd_u I 148 (upd (I 148) 0 0)) 148 (upd (upd (I 148) 0 0) 0 1)) L c s)) rfl rfl (dd_Af.ret rfl ?_) (by omega)
      show dd_Rn (e + 16) m_X11_calls (15, [.ref 148, .int a1], [.int 1], sM Ln (dd_u (dd_u I 148 (upd (I 148) 0 0)) 148 (upd (upd (I 148) 0 0) 0 1)) L c s) _
      exact dd_Rn.retK 3 (pc := 28) (ls := [.ref 148, .int a1]) (st := [.int 0]) (M := sM Ln (dd_u (dd_u I 148 (upd (I 148) 0 0)) 148 (upd (upd (I 148) 0 0) 0 1)) L c s) (o := (none, .int 0, sM Ln (dd_u (dd_u I 148 (upd (I 148) 0 0)) 148 (upd (upd (I 148) 0 0) 0 1)) L c s)) rfl rfl h (by omega)
    · have h := h.2 hc
      refine dd_Rn.retK 2 (pc := 15) (ls := [.int a1, .int 0, .int ((I 149 1) - 1)]) (st := [.int 1]) (M := sM Ln (dd_u I 148 (upd (I 148) 0 0)) L c s) (o := (none, .int 1, sM Ln (dd_u I 148 (upd (I 148) 0 0)) L c s)) rfl rfl (dd_Af.ret rfl ?_) (by omega)
      show dd_Rn (e + 15) m_X11_noBoy (11, [.ref 148, .int a1], [.int 1], sM Ln (dd_u I 148 (upd (I 148) 0 0)) L c s) _
      refine dd_Rn.retK 2 (pc := 19) (ls := [.ref 148, .int a1]) (st := [.int 0]) (M := sM Ln (dd_u I 148 (upd (I 148) 0 0)) L c s) (o := (none, .int 0, sM Ln (dd_u I 148 (upd (I 148) 0 0)) L c s)) rfl rfl (dd_Af.ret rfl ?_) (by omega)
      show dd_Rn (e + 16) m_X11_calls (11, [.ref 148, .int a1], [.int 0, .ref 148], sM Ln (dd_u I 148 (upd (I 148) 0 0)) L c s) _
      refine dd_Rn.sub 1 (pc := 12) (ls := [.ref 148, .int a1]) (st := [.int 1, .int 0, .ref 148]) (M := sM Ln (dd_u I 148 (upd (I 148) 0 0)) L c s) (x := m_X11_throwsIf) (as := [.ref 148, .int 0, .int 1]) (rest := []) rfl rfl rfl rfl ?_
      show dd_Rn (e + 15) m_X11_throwsIf (0, [.ref 148, .int 0, .int 1], [], sM Ln (dd_u I 148 (upd (I 148) 0 0)) L c s) _
      refine dd_Rn.retK 3 (pc := 10) (ls := [.ref 148, .int 0, .int 1]) (st := [.int 0]) (M := sM Ln (dd_u I 148 (upd (I 148) 0 0)) L c s) (o := (none, .int 0, sM Ln (dd_u I 148 (upd (I 148) 0 0)) L c s)) rfl rfl (dd_Af.ret rfl ?_) (by omega)
      show dd_Rn (e + 16) m_X11_calls (15, [.ref 148, .int a1], [.int 0], sM Ln (dd_u I 148 (upd (I 148) 0 0)) L c s) _
      refine dd_Rn.cI 4 (pc := 25) (ls := [.ref 148, .int a1]) (st := [.int 0, .int a1, .ref 148]) (x := m_X11_called) (as := [.ref 148, .int a1, .int 0]) (rest := []) rfl rfl rfl rfl h ?_
      intro x1 I1 L1 h
      show dd_Rn (e + 16) m_X11_calls (28, [.ref 148, .int a1], [.int x1], sM Ln I1 L1 c s) _
      exact dd_Rn.retK 0 (pc := 28) (ls := [.ref 148, .int a1]) (st := [.int x1]) (M := sM Ln I1 L1 c s) (o := (none, .int x1, sM Ln I1 L1 c s)) rfl rfl h (by omega)

theorem w_X11_first_0 {Ln d c s : Nat} {I : Nat → Nat → Int32} {L : Nat → Nat → Int64} {Q : dd_O → Prop} {a1 : Int32} (hd : 28 ≤ d) (h : ((a1 < 0 → Q (none, .int 0, sM Ln (dd_u (dd_u I 148 (upd (I 148) 0 0)) 148 (upd (upd (I 148) 0 0) 0 1)) L c s)) ∧ (¬ (a1 < 0) → (((I 149 1) - 1 < a1 → Q (none, .int 0, sM Ln (dd_u (dd_u I 148 (upd (I 148) 0 0)) 148 (upd (upd (I 148) 0 0) 0 1)) L c s)) ∧ (¬ ((I 149 1) - 1 < a1) → dd_Ev (d - 1) m_X11_called [.ref 148, .int a1, .int 1] (sM Ln (dd_u I 148 (upd (I 148) 0 0)) L c s) (dd_RI Ln c s (fun x1 I1 L1 => Q (none, .int x1, sM Ln I1 L1 c s)))))))) : dd_Ev d m_X11_first [.ref 148, .int a1] (sM Ln I L c s) Q := by
  obtain ⟨e, rfl⟩ : ∃ e, d = e + 16 := ⟨d - 16, by omega⟩
  show dd_Rn (e + 16) m_X11_first (0, [.ref 148, .int a1], [], sM Ln I L c s) Q
  refine dd_Rn.sub 6 (pc := 8) (ls := [.ref 148, .int a1]) (st := [.int a1, .ref 148, .ref 148]) (M := sM Ln (dd_u I 148 (upd (I 148) 0 0)) L c s) (x := m_X11_noBoy) (as := [.ref 148, .int a1]) (rest := [.ref 148]) rfl rfl rfl rfl ?_
  show dd_Rn (e + 15) m_X11_noBoy (0, [.ref 148, .int a1], [], sM Ln (dd_u I 148 (upd (I 148) 0 0)) L c s) _
  refine dd_Rn.sub 3 (pc := 3) (ls := [.ref 148, .int a1]) (st := [.ref 148, .int 0, .int a1]) (M := sM Ln (dd_u I 148 (upd (I 148) 0 0)) L c s) (x := m_X11_boys) (as := [.ref 148]) (rest := [.int 0, .int a1]) rfl rfl rfl rfl ?_
  show dd_Rn (e + 14) m_X11_boys (0, [.ref 148], [], sM Ln (dd_u I 148 (upd (I 148) 0 0)) L c s) _
  refine dd_Rn.retK 4 (pc := 6) (ls := [.ref 148]) (st := [.int (I 149 1)]) (M := sM Ln (dd_u I 148 (upd (I 148) 0 0)) L c s) (o := (none, .int (I 149 1), sM Ln (dd_u I 148 (upd (I 148) 0 0)) L c s)) rfl rfl (dd_Af.ret rfl ?_) (by omega)
  show dd_Rn (e + 15) m_X11_noBoy (6, [.ref 148, .int a1], [.int (I 149 1), .int 0, .int a1], sM Ln (dd_u I 148 (upd (I 148) 0 0)) L c s) _
  refine dd_Rn.sub 2 (pc := 8) (ls := [.ref 148, .int a1]) (st := [.int ((I 149 1) - 1), .int 0, .int a1]) (M := sM Ln (dd_u I 148 (upd (I 148) 0 0)) L c s) (x := m_X11_in) (as := [.int a1, .int 0, .int ((I 149 1) - 1)]) (rest := []) rfl rfl rfl rfl ?_
  show dd_Rn (e + 14) m_X11_in (0, [.int a1, .int 0, .int ((I 149 1) - 1)], [], sM Ln (dd_u I 148 (upd (I 148) 0 0)) L c s) _
  refine dd_Rn.ite 2 (c := a1 < 0) (A := (14, [.int a1, .int 0, .int ((I 149 1) - 1)], [], sM Ln (dd_u I 148 (upd (I 148) 0 0)) L c s)) (B := (5, [.int a1, .int 0, .int ((I 149 1) - 1)], [], sM Ln (dd_u I 148 (upd (I 148) 0 0)) L c s)) rfl (fun hc => ?_) (fun hc => ?_) (by omega)
  · have h := h.1 hc
    refine dd_Rn.retK 1 (pc := 15) (ls := [.int a1, .int 0, .int ((I 149 1) - 1)]) (st := [.int 0]) (M := sM Ln (dd_u I 148 (upd (I 148) 0 0)) L c s) (o := (none, .int 0, sM Ln (dd_u I 148 (upd (I 148) 0 0)) L c s)) rfl rfl (dd_Af.ret rfl ?_) (by omega)
    show dd_Rn (e + 15) m_X11_noBoy (11, [.ref 148, .int a1], [.int 0], sM Ln (dd_u I 148 (upd (I 148) 0 0)) L c s) _
    refine dd_Rn.retK 3 (pc := 19) (ls := [.ref 148, .int a1]) (st := [.int 1]) (M := sM Ln (dd_u I 148 (upd (I 148) 0 0)) L c s) (o := (none, .int 1, sM Ln (dd_u I 148 (upd (I 148) 0 0)) L c s)) rfl rfl (dd_Af.ret rfl ?_) (by omega)
    show dd_Rn (e + 16) m_X11_first (11, [.ref 148, .int a1], [.int 1, .ref 148], sM Ln (dd_u I 148 (upd (I 148) 0 0)) L c s) _
    refine dd_Rn.sub 1 (pc := 12) (ls := [.ref 148, .int a1]) (st := [.int 1, .int 1, .ref 148]) (M := sM Ln (dd_u I 148 (upd (I 148) 0 0)) L c s) (x := m_X11_throwsIf) (as := [.ref 148, .int 1, .int 1]) (rest := []) rfl rfl rfl rfl ?_
    show dd_Rn (e + 15) m_X11_throwsIf (0, [.ref 148, .int 1, .int 1], [], sM Ln (dd_u I 148 (upd (I 148) 0 0)) L c s) _
    refine dd_Rn.retK 6 (pc := 10) (ls := [.ref 148, .int 1, .int 1]) (st := [.int 1]) (M := sM Ln (dd_u (dd_u I 148 (upd (I 148) 0 0)) 148 (upd (upd (I 148) 0 0) 0 1)) L c s) (o := (none, .int 1, sM Ln (dd_u (dd_u I 148 (upd (I 148) 0 0)) 148 (upd (upd (I 148) 0 0) 0 1)) L c s)) rfl rfl (dd_Af.ret rfl ?_) (by omega)
    show dd_Rn (e + 16) m_X11_first (15, [.ref 148, .int a1], [.int 1], sM Ln (dd_u (dd_u I 148 (upd (I 148) 0 0)) 148 (upd (upd (I 148) 0 0) 0 1)) L c s) _
    exact dd_Rn.retK 3 (pc := 28) (ls := [.ref 148, .int a1]) (st := [.int 0]) (M := sM Ln (dd_u (dd_u I 148 (upd (I 148) 0 0)) 148 (upd (upd (I 148) 0 0) 0 1)) L c s) (o := (none, .int 0, sM Ln (dd_u (dd_u I 148 (upd (I 148) 0 0)) 148 (upd (upd (I 148) 0 0) 0 1)) L c s)) rfl rfl h (by omega)
  · have h := h.2 hc
    refine dd_Rn.ite 2 (c := (I 149 1) - 1 < a1) (A := (14, [.int a1, .int 0, .int ((I 149 1) - 1)], [], sM Ln (dd_u I 148 (upd (I 148) 0 0)) L c s)) (B := (10, [.int a1, .int 0, .int ((I 149 1) - 1)], [], sM Ln (dd_u I 148 (upd (I 148) 0 0)) L c s)) rfl (fun hc => ?_) (fun hc => ?_) (by omega)
    · have h := h.1 hc
      refine dd_Rn.retK 1 (pc := 15) (ls := [.int a1, .int 0, .int ((I 149 1) - 1)]) (st := [.int 0]) (M := sM Ln (dd_u I 148 (upd (I 148) 0 0)) L c s) (o := (none, .int 0, sM Ln (dd_u I 148 (upd (I 148) 0 0)) L c s)) rfl rfl (dd_Af.ret rfl ?_) (by omega)
      show dd_Rn (e + 15) m_X11_noBoy (11, [.ref 148, .int a1], [.int 0], sM Ln (dd_u I 148 (upd (I 148) 0 0)) L c s) _
      refine dd_Rn.retK 3 (pc := 19) (ls := [.ref 148, .int a1]) (st := [.int 1]) (M := sM Ln (dd_u I 148 (upd (I 148) 0 0)) L c s) (o := (none, .int 1, sM Ln (dd_u I 148 (upd (I 148) 0 0)) L c s)) rfl rfl (dd_Af.ret rfl ?_) (by omega)
      show dd_Rn (e + 16) m_X11_first (11, [.ref 148, .int a1], [.int 1, .ref 148], sM Ln (dd_u I 148 (upd (I 148) 0 0)) L c s) _
      refine dd_Rn.sub 1 (pc := 12) (ls := [.ref 148, .int a1]) (st := [.int 1, .int 1, .ref 148]) (M := sM Ln (dd_u I 148 (upd (I 148) 0 0)) L c s) (x := m_X11_throwsIf) (as := [.ref 148, .int 1, .int 1]) (rest := []) rfl rfl rfl rfl ?_
      show dd_Rn (e + 15) m_X11_throwsIf (0, [.ref 148, .int 1, .int 1], [], sM Ln (dd_u I 148 (upd (I 148) 0 0)) L c s) _
      refine dd_Rn.retK 6 (pc := 10) (ls := [.ref 148, .int 1, .int 1]) (st := [.int 1]) (M := sM Ln (dd_u (dd_u I 148 (upd (I 148) 0 0)) 148 (upd (upd (I 148) 0 0) 0 1)) L c s) (o := (none, .int 1, sM Ln (dd_u (dd_u I 148 (upd (I 148) 0 0)) 148 (upd (upd (I 148) 0 0) 0 1)) L c s)) rfl rfl (dd_Af.ret rfl ?_) (by omega)
      show dd_Rn (e + 16) m_X11_first (15, [.ref 148, .int a1], [.int 1], sM Ln (dd_u (dd_u I 148 (upd (I 148) 0 0)) 148 (upd (upd (I 148) 0 0) 0 1)) L c s) _
      exact dd_Rn.retK 3 (pc := 28) (ls := [.ref 148, .int a1]) (st := [.int 0]) (M := sM Ln (dd_u (dd_u I 148 (upd (I 148) 0 0)) 148 (upd (upd (I 148) 0 0) 0 1)) L c s) (o := (none, .int 0, sM Ln (dd_u (dd_u I 148 (upd (I 148) 0 0)) 148 (upd (upd (I 148) 0 0) 0 1)) L c s)) rfl rfl h (by omega)
    · have h := h.2 hc
      refine dd_Rn.retK 2 (pc := 15) (ls := [.int a1, .int 0, .int ((I 149 1) - 1)]) (st := [.int 1]) (M := sM Ln (dd_u I 148 (upd (I 148) 0 0)) L c s) (o := (none, .int 1, sM Ln (dd_u I 148 (upd (I 148) 0 0)) L c s)) rfl rfl (dd_Af.ret rfl ?_) (by omega)
      show dd_Rn (e + 15) m_X11_noBoy (11, [.ref 148, .int a1], [.int 1], sM Ln (dd_u I 148 (upd (I 148) 0 0)) L c s) _
      refine dd_Rn.retK 2 (pc := 19) (ls := [.ref 148, .int a1]) (st := [.int 0]) (M := sM Ln (dd_u I 148 (upd (I 148) 0 0)) L c s) (o := (none, .int 0, sM Ln (dd_u I 148 (upd (I 148) 0 0)) L c s)) rfl rfl (dd_Af.ret rfl ?_) (by omega)
      show dd_Rn (e + 16) m_X11_first (11, [.ref 148, .int a1], [.int 0, .ref 148], sM Ln (dd_u I 148 (upd (I 148) 0 0)) L c s) _
      refine dd_Rn.sub 1 (pc := 12) (ls := [.ref 148, .int a1]) (st := [.int 1, .int 0, .ref 148]) (M := sM Ln (dd_u I 148 (upd (I 148) 0 0)) L c s) (x := m_X11_throwsIf) (as := [.ref 148, .int 0, .int 1]) (rest := []) rfl rfl rfl rfl ?_
      show dd_Rn (e + 15) m_X11_throwsIf (0, [.ref 148, .int 0, .int 1], [], sM Ln (dd_u I 148 (upd (I 148) 0 0)) L c s) _
      refine dd_Rn.retK 3 (pc := 10) (ls := [.ref 148, .int 0, .int 1]) (st := [.int 0]) (M := sM Ln (dd_u I 148 (upd (I 148) 0 0)) L c s) (o := (none, .int 0, sM Ln (dd_u I 148 (upd (I 148) 0 0)) L c s)) rfl rfl (dd_Af.ret rfl ?_) (by omega)
      show dd_Rn (e + 16) m_X11_first (15, [.ref 148, .int a1], [.int 0], sM Ln (dd_u I 148 (upd (I 148) 0 0)) L c s) _
      refine dd_Rn.cI 4 (pc := 25) (ls := [.ref 148, .int a1]) (st := [.int 1, .int a1, .ref 148]) (x := m_X11_called) (as := [.ref 148, .int a1, .int 1]) (rest := []) rfl rfl rfl rfl h ?_
      intro x1 I1 L1 h
      show dd_Rn (e + 16) m_X11_first (28, [.ref 148, .int a1], [.int x1], sM Ln I1 L1 c s) _
      exact dd_Rn.retK 0 (pc := 28) (ls := [.ref 148, .int a1]) (st := [.int x1]) (M := sM Ln I1 L1 c s) (o := (none, .int x1, sM Ln I1 L1 c s)) rfl rfl h (by omega)

theorem w_X11_can_0 {Ln d c s : Nat} {I : Nat → Nat → Int32} {L : Nat → Nat → Int64} {Q : dd_O → Prop} {a1 a2 : Int32} (hd : 28 ≤ d) (h : ((a1 < 0 → Q (none, .int 0, sM Ln (dd_u (dd_u I 148 (upd (I 148) 0 0)) 148 (upd (upd (I 148) 0 0) 0 1)) L c s)) ∧ (¬ (a1 < 0) → (((I 149 1) - 1 < a1 → Q (none, .int 0, sM Ln (dd_u (dd_u I 148 (upd (I 148) 0 0)) 148 (upd (upd (I 148) 0 0) 0 1)) L c s)) ∧ (¬ ((I 149 1) - 1 < a1) → ((a2 < 0 → Q (none, .int 0, sM Ln (dd_u (dd_u I 148 (upd (I 148) 0 0)) 148 (upd (upd (I 148) 0 0) 0 2)) L c s)) ∧ (¬ (a2 < 0) → (((16 : Int32) < a2 → Q (none, .int 0, sM Ln (dd_u (dd_u I 148 (upd (I 148) 0 0)) 148 (upd (upd (I 148) 0 0) 0 2)) L c s)) ∧ (¬ ((16 : Int32) < a2) → dd_Ev (d - 1) m_X11_startsAt [.ref 148, .int a1] (sM Ln (dd_u I 148 (upd (I 148) 0 0)) L c s) (dd_RV Ln c s (fun I1 L1 => dd_Rn d m_X11_can (50, [.ref 148, .int a1, .int a2, .int 0, .null], [], sM Ln I1 L1 c s) Q))))))))))) : dd_Ev d m_X11_can [.ref 148, .int a1, .int a2] (sM Ln I L c s) Q := by
  obtain ⟨e, rfl⟩ : ∃ e, d = e + 16 := ⟨d - 16, by omega⟩
  show dd_Rn (e + 16) m_X11_can (0, [.ref 148, .int a1, .int a2, .null, .null], [], sM Ln I L c s) Q
  refine dd_Rn.sub 6 (pc := 8) (ls := [.ref 148, .int a1, .int a2, .null, .null]) (st := [.int a1, .ref 148, .ref 148]) (M := sM Ln (dd_u I 148 (upd (I 148) 0 0)) L c s) (x := m_X11_noBoy) (as := [.ref 148, .int a1]) (rest := [.ref 148]) rfl rfl rfl rfl ?_
  show dd_Rn (e + 15) m_X11_noBoy (0, [.ref 148, .int a1], [], sM Ln (dd_u I 148 (upd (I 148) 0 0)) L c s) _
  refine dd_Rn.sub 3 (pc := 3) (ls := [.ref 148, .int a1]) (st := [.ref 148, .int 0, .int a1]) (M := sM Ln (dd_u I 148 (upd (I 148) 0 0)) L c s) (x := m_X11_boys) (as := [.ref 148]) (rest := [.int 0, .int a1]) rfl rfl rfl rfl ?_
  show dd_Rn (e + 14) m_X11_boys (0, [.ref 148], [], sM Ln (dd_u I 148 (upd (I 148) 0 0)) L c s) _
  refine dd_Rn.retK 4 (pc := 6) (ls := [.ref 148]) (st := [.int (I 149 1)]) (M := sM Ln (dd_u I 148 (upd (I 148) 0 0)) L c s) (o := (none, .int (I 149 1), sM Ln (dd_u I 148 (upd (I 148) 0 0)) L c s)) rfl rfl (dd_Af.ret rfl ?_) (by omega)
  show dd_Rn (e + 15) m_X11_noBoy (6, [.ref 148, .int a1], [.int (I 149 1), .int 0, .int a1], sM Ln (dd_u I 148 (upd (I 148) 0 0)) L c s) _
  refine dd_Rn.sub 2 (pc := 8) (ls := [.ref 148, .int a1]) (st := [.int ((I 149 1) - 1), .int 0, .int a1]) (M := sM Ln (dd_u I 148 (upd (I 148) 0 0)) L c s) (x := m_X11_in) (as := [.int a1, .int 0, .int ((I 149 1) - 1)]) (rest := []) rfl rfl rfl rfl ?_
  show dd_Rn (e + 14) m_X11_in (0, [.int a1, .int 0, .int ((I 149 1) - 1)], [], sM Ln (dd_u I 148 (upd (I 148) 0 0)) L c s) _
  refine dd_Rn.ite 2 (c := a1 < 0) (A := (14, [.int a1, .int 0, .int ((I 149 1) - 1)], [], sM Ln (dd_u I 148 (upd (I 148) 0 0)) L c s)) (B := (5, [.int a1, .int 0, .int ((I 149 1) - 1)], [], sM Ln (dd_u I 148 (upd (I 148) 0 0)) L c s)) rfl (fun hc => ?_) (fun hc => ?_) (by omega)
  · have h := h.1 hc
    refine dd_Rn.retK 1 (pc := 15) (ls := [.int a1, .int 0, .int ((I 149 1) - 1)]) (st := [.int 0]) (M := sM Ln (dd_u I 148 (upd (I 148) 0 0)) L c s) (o := (none, .int 0, sM Ln (dd_u I 148 (upd (I 148) 0 0)) L c s)) rfl rfl (dd_Af.ret rfl ?_) (by omega)
    show dd_Rn (e + 15) m_X11_noBoy (11, [.ref 148, .int a1], [.int 0], sM Ln (dd_u I 148 (upd (I 148) 0 0)) L c s) _
    refine dd_Rn.retK 3 (pc := 19) (ls := [.ref 148, .int a1]) (st := [.int 1]) (M := sM Ln (dd_u I 148 (upd (I 148) 0 0)) L c s) (o := (none, .int 1, sM Ln (dd_u I 148 (upd (I 148) 0 0)) L c s)) rfl rfl (dd_Af.ret rfl ?_) (by omega)
    show dd_Rn (e + 16) m_X11_can (11, [.ref 148, .int a1, .int a2, .null, .null], [.int 1, .ref 148], sM Ln (dd_u I 148 (upd (I 148) 0 0)) L c s) _
    refine dd_Rn.sub 1 (pc := 12) (ls := [.ref 148, .int a1, .int a2, .null, .null]) (st := [.int 1, .int 1, .ref 148]) (M := sM Ln (dd_u I 148 (upd (I 148) 0 0)) L c s) (x := m_X11_throwsIf) (as := [.ref 148, .int 1, .int 1]) (rest := []) rfl rfl rfl rfl ?_
    show dd_Rn (e + 15) m_X11_throwsIf (0, [.ref 148, .int 1, .int 1], [], sM Ln (dd_u I 148 (upd (I 148) 0 0)) L c s) _
    refine dd_Rn.retK 6 (pc := 10) (ls := [.ref 148, .int 1, .int 1]) (st := [.int 1]) (M := sM Ln (dd_u (dd_u I 148 (upd (I 148) 0 0)) 148 (upd (upd (I 148) 0 0) 0 1)) L c s) (o := (none, .int 1, sM Ln (dd_u (dd_u I 148 (upd (I 148) 0 0)) 148 (upd (upd (I 148) 0 0) 0 1)) L c s)) rfl rfl (dd_Af.ret rfl ?_) (by omega)
    show dd_Rn (e + 16) m_X11_can (15, [.ref 148, .int a1, .int a2, .null, .null], [.int 1], sM Ln (dd_u (dd_u I 148 (upd (I 148) 0 0)) 148 (upd (upd (I 148) 0 0) 0 1)) L c s) _
    exact dd_Rn.retK 2 (pc := 42) (ls := [.ref 148, .int a1, .int a2, .null, .null]) (st := [.int 0]) (M := sM Ln (dd_u (dd_u I 148 (upd (I 148) 0 0)) 148 (upd (upd (I 148) 0 0) 0 1)) L c s) (o := (none, .int 0, sM Ln (dd_u (dd_u I 148 (upd (I 148) 0 0)) 148 (upd (upd (I 148) 0 0) 0 1)) L c s)) rfl rfl h (by omega)
  · have h := h.2 hc
    refine dd_Rn.ite 2 (c := (I 149 1) - 1 < a1) (A := (14, [.int a1, .int 0, .int ((I 149 1) - 1)], [], sM Ln (dd_u I 148 (upd (I 148) 0 0)) L c s)) (B := (10, [.int a1, .int 0, .int ((I 149 1) - 1)], [], sM Ln (dd_u I 148 (upd (I 148) 0 0)) L c s)) rfl (fun hc => ?_) (fun hc => ?_) (by omega)
    · have h := h.1 hc
      refine dd_Rn.retK 1 (pc := 15) (ls := [.int a1, .int 0, .int ((I 149 1) - 1)]) (st := [.int 0]) (M := sM Ln (dd_u I 148 (upd (I 148) 0 0)) L c s) (o := (none, .int 0, sM Ln (dd_u I 148 (upd (I 148) 0 0)) L c s)) rfl rfl (dd_Af.ret rfl ?_) (by omega)
      show dd_Rn (e + 15) m_X11_noBoy (11, [.ref 148, .int a1], [.int 0], sM Ln (dd_u I 148 (upd (I 148) 0 0)) L c s) _
      refine dd_Rn.retK 3 (pc := 19) (ls := [.ref 148, .int a1]) (st := [.int 1]) (M := sM Ln (dd_u I 148 (upd (I 148) 0 0)) L c s) (o := (none, .int 1, sM Ln (dd_u I 148 (upd (I 148) 0 0)) L c s)) rfl rfl (dd_Af.ret rfl ?_) (by omega)
      show dd_Rn (e + 16) m_X11_can (11, [.ref 148, .int a1, .int a2, .null, .null], [.int 1, .ref 148], sM Ln (dd_u I 148 (upd (I 148) 0 0)) L c s) _
      refine dd_Rn.sub 1 (pc := 12) (ls := [.ref 148, .int a1, .int a2, .null, .null]) (st := [.int 1, .int 1, .ref 148]) (M := sM Ln (dd_u I 148 (upd (I 148) 0 0)) L c s) (x := m_X11_throwsIf) (as := [.ref 148, .int 1, .int 1]) (rest := []) rfl rfl rfl rfl ?_
      show dd_Rn (e + 15) m_X11_throwsIf (0, [.ref 148, .int 1, .int 1], [], sM Ln (dd_u I 148 (upd (I 148) 0 0)) L c s) _
      refine dd_Rn.retK 6 (pc := 10) (ls := [.ref 148, .int 1, .int 1]) (st := [.int 1]) (M := sM Ln (dd_u (dd_u I 148 (upd (I 148) 0 0)) 148 (upd (upd (I 148) 0 0) 0 1)) L c s) (o := (none, .int 1, sM Ln (dd_u (dd_u I 148 (upd (I 148) 0 0)) 148 (upd (upd (I 148) 0 0) 0 1)) L c s)) rfl rfl (dd_Af.ret rfl ?_) (by omega)
      show dd_Rn (e + 16) m_X11_can (15, [.ref 148, .int a1, .int a2, .null, .null], [.int 1], sM Ln (dd_u (dd_u I 148 (upd (I 148) 0 0)) 148 (upd (upd (I 148) 0 0) 0 1)) L c s) _
      exact dd_Rn.retK 2 (pc := 42) (ls := [.ref 148, .int a1, .int a2, .null, .null]) (st := [.int 0]) (M := sM Ln (dd_u (dd_u I 148 (upd (I 148) 0 0)) 148 (upd (upd (I 148) 0 0) 0 1)) L c s) (o := (none, .int 0, sM Ln (dd_u (dd_u I 148 (upd (I 148) 0 0)) 148 (upd (upd (I 148) 0 0) 0 1)) L c s)) rfl rfl h (by omega)
    · have h := h.2 hc
      refine dd_Rn.retK 2 (pc := 15) (ls := [.int a1, .int 0, .int ((I 149 1) - 1)]) (st := [.int 1]) (M := sM Ln (dd_u I 148 (upd (I 148) 0 0)) L c s) (o := (none, .int 1, sM Ln (dd_u I 148 (upd (I 148) 0 0)) L c s)) rfl rfl (dd_Af.ret rfl ?_) (by omega)
      show dd_Rn (e + 15) m_X11_noBoy (11, [.ref 148, .int a1], [.int 1], sM Ln (dd_u I 148 (upd (I 148) 0 0)) L c s) _
      refine dd_Rn.retK 2 (pc := 19) (ls := [.ref 148, .int a1]) (st := [.int 0]) (M := sM Ln (dd_u I 148 (upd (I 148) 0 0)) L c s) (o := (none, .int 0, sM Ln (dd_u I 148 (upd (I 148) 0 0)) L c s)) rfl rfl (dd_Af.ret rfl ?_) (by omega)
      show dd_Rn (e + 16) m_X11_can (11, [.ref 148, .int a1, .int a2, .null, .null], [.int 0, .ref 148], sM Ln (dd_u I 148 (upd (I 148) 0 0)) L c s) _
      refine dd_Rn.sub 1 (pc := 12) (ls := [.ref 148, .int a1, .int a2, .null, .null]) (st := [.int 1, .int 0, .ref 148]) (M := sM Ln (dd_u I 148 (upd (I 148) 0 0)) L c s) (x := m_X11_throwsIf) (as := [.ref 148, .int 0, .int 1]) (rest := []) rfl rfl rfl rfl ?_
      show dd_Rn (e + 15) m_X11_throwsIf (0, [.ref 148, .int 0, .int 1], [], sM Ln (dd_u I 148 (upd (I 148) 0 0)) L c s) _
      refine dd_Rn.retK 3 (pc := 10) (ls := [.ref 148, .int 0, .int 1]) (st := [.int 0]) (M := sM Ln (dd_u I 148 (upd (I 148) 0 0)) L c s) (o := (none, .int 0, sM Ln (dd_u I 148 (upd (I 148) 0 0)) L c s)) rfl rfl (dd_Af.ret rfl ?_) (by omega)
      show dd_Rn (e + 16) m_X11_can (15, [.ref 148, .int a1, .int a2, .null, .null], [.int 0], sM Ln (dd_u I 148 (upd (I 148) 0 0)) L c s) _
      refine dd_Rn.sub 5 (pc := 23) (ls := [.ref 148, .int a1, .int a2, .null, .null]) (st := [.int 16, .int 0, .int a2, .ref 148]) (M := sM Ln (dd_u I 148 (upd (I 148) 0 0)) L c s) (x := m_X11_in) (as := [.int a2, .int 0, .int 16]) (rest := [.ref 148]) rfl rfl rfl rfl ?_
      show dd_Rn (e + 15) m_X11_in (0, [.int a2, .int 0, .int 16], [], sM Ln (dd_u I 148 (upd (I 148) 0 0)) L c s) _
      refine dd_Rn.ite 2 (c := a2 < 0) (A := (14, [.int a2, .int 0, .int 16], [], sM Ln (dd_u I 148 (upd (I 148) 0 0)) L c s)) (B := (5, [.int a2, .int 0, .int 16], [], sM Ln (dd_u I 148 (upd (I 148) 0 0)) L c s)) rfl (fun hc => ?_) (fun hc => ?_) (by omega)
      · have h := h.1 hc
        refine dd_Rn.retK 1 (pc := 15) (ls := [.int a2, .int 0, .int 16]) (st := [.int 0]) (M := sM Ln (dd_u I 148 (upd (I 148) 0 0)) L c s) (o := (none, .int 0, sM Ln (dd_u I 148 (upd (I 148) 0 0)) L c s)) rfl rfl (dd_Af.ret rfl ?_) (by omega)
        show dd_Rn (e + 16) m_X11_can (26, [.ref 148, .int a1, .int a2, .null, .null], [.int 0, .ref 148], sM Ln (dd_u I 148 (upd (I 148) 0 0)) L c s) _
        refine dd_Rn.sub 4 (pc := 35) (ls := [.ref 148, .int a1, .int a2, .null, .null]) (st := [.int 2, .int 1, .ref 148]) (M := sM Ln (dd_u I 148 (upd (I 148) 0 0)) L c s) (x := m_X11_throwsIf) (as := [.ref 148, .int 1, .int 2]) (rest := []) rfl rfl rfl rfl ?_
        show dd_Rn (e + 15) m_X11_throwsIf (0, [.ref 148, .int 1, .int 2], [], sM Ln (dd_u I 148 (upd (I 148) 0 0)) L c s) _
        refine dd_Rn.retK 6 (pc := 10) (ls := [.ref 148, .int 1, .int 2]) (st := [.int 1]) (M := sM Ln (dd_u (dd_u I 148 (upd (I 148) 0 0)) 148 (upd (upd (I 148) 0 0) 0 2)) L c s) (o := (none, .int 1, sM Ln (dd_u (dd_u I 148 (upd (I 148) 0 0)) 148 (upd (upd (I 148) 0 0) 0 2)) L c s)) rfl rfl (dd_Af.ret rfl ?_) (by omega)
        show dd_Rn (e + 16) m_X11_can (38, [.ref 148, .int a1, .int a2, .null, .null], [.int 1], sM Ln (dd_u (dd_u I 148 (upd (I 148) 0 0)) 148 (upd (upd (I 148) 0 0) 0 2)) L c s) _
        exact dd_Rn.retK 2 (pc := 42) (ls := [.ref 148, .int a1, .int a2, .null, .null]) (st := [.int 0]) (M := sM Ln (dd_u (dd_u I 148 (upd (I 148) 0 0)) 148 (upd (upd (I 148) 0 0) 0 2)) L c s) (o := (none, .int 0, sM Ln (dd_u (dd_u I 148 (upd (I 148) 0 0)) 148 (upd (upd (I 148) 0 0) 0 2)) L c s)) rfl rfl h (by omega)
      · have h := h.2 hc
        refine dd_Rn.ite 2 (c := (16 : Int32) < a2) (A := (14, [.int a2, .int 0, .int 16], [], sM Ln (dd_u I 148 (upd (I 148) 0 0)) L c s)) (B := (10, [.int a2, .int 0, .int 16], [], sM Ln (dd_u I 148 (upd (I 148) 0 0)) L c s)) rfl (fun hc => ?_) (fun hc => ?_) (by omega)
        · have h := h.1 hc
          refine dd_Rn.retK 1 (pc := 15) (ls := [.int a2, .int 0, .int 16]) (st := [.int 0]) (M := sM Ln (dd_u I 148 (upd (I 148) 0 0)) L c s) (o := (none, .int 0, sM Ln (dd_u I 148 (upd (I 148) 0 0)) L c s)) rfl rfl (dd_Af.ret rfl ?_) (by omega)
          show dd_Rn (e + 16) m_X11_can (26, [.ref 148, .int a1, .int a2, .null, .null], [.int 0, .ref 148], sM Ln (dd_u I 148 (upd (I 148) 0 0)) L c s) _
          refine dd_Rn.sub 4 (pc := 35) (ls := [.ref 148, .int a1, .int a2, .null, .null]) (st := [.int 2, .int 1, .ref 148]) (M := sM Ln (dd_u I 148 (upd (I 148) 0 0)) L c s) (x := m_X11_throwsIf) (as := [.ref 148, .int 1, .int 2]) (rest := []) rfl rfl rfl rfl ?_
          show dd_Rn (e + 15) m_X11_throwsIf (0, [.ref 148, .int 1, .int 2], [], sM Ln (dd_u I 148 (upd (I 148) 0 0)) L c s) _
          refine dd_Rn.retK 6 (pc := 10) (ls := [.ref 148, .int 1, .int 2]) (st := [.int 1]) (M := sM Ln (dd_u (dd_u I 148 (upd (I 148) 0 0)) 148 (upd (upd (I 148) 0 0) 0 2)) L c s) (o := (none, .int 1, sM Ln (dd_u (dd_u I 148 (upd (I 148) 0 0)) 148 (upd (upd (I 148) 0 0) 0 2)) L c s)) rfl rfl (dd_Af.ret rfl ?_) (by omega)
          show dd_Rn (e + 16) m_X11_can (38, [.ref 148, .int a1, .int a2, .null, .null], [.int 1], sM Ln (dd_u (dd_u I 148 (upd (I 148) 0 0)) 148 (upd (upd (I 148) 0 0) 0 2)) L c s) _
          exact dd_Rn.retK 2 (pc := 42) (ls := [.ref 148, .int a1, .int a2, .null, .null]) (st := [.int 0]) (M := sM Ln (dd_u (dd_u I 148 (upd (I 148) 0 0)) 148 (upd (upd (I 148) 0 0) 0 2)) L c s) (o := (none, .int 0, sM Ln (dd_u (dd_u I 148 (upd (I 148) 0 0)) 148 (upd (upd (I 148) 0 0) 0 2)) L c s)) rfl rfl h (by omega)
        · have h := h.2 hc
          refine dd_Rn.retK 2 (pc := 15) (ls := [.int a2, .int 0, .int 16]) (st := [.int 1]) (M := sM Ln (dd_u I 148 (upd (I 148) 0 0)) L c s) (o := (none, .int 1, sM Ln (dd_u I 148 (upd (I 148) 0 0)) L c s)) rfl rfl (dd_Af.ret rfl ?_) (by omega)
          show dd_Rn (e + 16) m_X11_can (26, [.ref 148, .int a1, .int a2, .null, .null], [.int 1, .ref 148], sM Ln (dd_u I 148 (upd (I 148) 0 0)) L c s) _
          refine dd_Rn.sub 3 (pc := 35) (ls := [.ref 148, .int a1, .int a2, .null, .null]) (st := [.int 2, .int 0, .ref 148]) (M := sM Ln (dd_u I 148 (upd (I 148) 0 0)) L c s) (x := m_X11_throwsIf) (as := [.ref 148, .int 0, .int 2]) (rest := []) rfl rfl rfl rfl ?_
          show dd_Rn (e + 15) m_X11_throwsIf (0, [.ref 148, .int 0, .int 2], [], sM Ln (dd_u I 148 (upd (I 148) 0 0)) L c s) _
          refine dd_Rn.retK 3 (pc := 10) (ls := [.ref 148, .int 0, .int 2]) (st := [.int 0]) (M := sM Ln (dd_u I 148 (upd (I 148) 0 0)) L c s) (o := (none, .int 0, sM Ln (dd_u I 148 (upd (I 148) 0 0)) L c s)) rfl rfl (dd_Af.ret rfl ?_) (by omega)
          show dd_Rn (e + 16) m_X11_can (38, [.ref 148, .int a1, .int a2, .null, .null], [.int 0], sM Ln (dd_u I 148 (upd (I 148) 0 0)) L c s) _
          refine dd_Rn.cV 3 (pc := 45) (ls := [.ref 148, .int a1, .int a2, .null, .null]) (st := [.int a1, .ref 148]) (x := m_X11_startsAt) (as := [.ref 148, .int a1]) (rest := []) rfl rfl rfl rfl h ?_
          intro I1 L1 h
          show dd_Rn (e + 16) m_X11_can (48, [.ref 148, .int a1, .int a2, .null, .null], [], sM Ln I1 L1 c s) _
          exact dd_Rn.go 2 (cf' := (50, [.ref 148, .int a1, .int a2, .int 0, .null], [], sM Ln I1 L1 c s)) rfl h (by omega)

theorem w_X11_can_50 {Ln d c s : Nat} {I : Nat → Nat → Int32} {L : Nat → Nat → Int64} {Q : dd_O → Prop} {a1 a2 a3 : Int32} (hd : 28 ≤ d) (h : ((a2 ≤ a3 → dd_Ev (d - 1) m_X11_bringsBack [.ref 148] (sM Ln I L c s) (dd_RV Ln c s (fun I1 L1 => dd_Rn d m_X11_can (84, [.ref 148, .int a1, .int a2, .int 0, .int 0], [], sM Ln I1 L1 c s) Q))) ∧ (¬ (a2 ≤ a3) → ((a3 = 0 → dd_Ev (d - 1) m_X11_anyNote [.ref 148, .int a1, .int 1] (sM Ln I L c s) (dd_RV Ln c s (fun I2 L2 => dd_Rn d m_X11_can (50, [.ref 148, .int a1, .int a2, .int (a3 + 1), .null], [], sM Ln I2 L2 c s) Q))) ∧ (¬ (a3 = 0) → dd_Ev (d - 1) m_X11_anyNote [.ref 148, .int a1, .int 0] (sM Ln I L c s) (dd_RV Ln c s (fun I3 L3 => dd_Rn d m_X11_can (50, [.ref 148, .int a1, .int a2, .int (a3 + 1), .null], [], sM Ln I3 L3 c s) Q))))))) : dd_Rn d m_X11_can (50, [.ref 148, .int a1, .int a2, .int a3, .null], [], sM Ln I L c s) Q := by
  obtain ⟨e, rfl⟩ : ∃ e, d = e + 16 := ⟨d - 16, by omega⟩
  refine dd_Rn.ite 2 (c := a2 ≤ a3) (A := (75, [.ref 148, .int a1, .int a2, .int a3, .null], [], sM Ln I L c s)) (B := (55, [.ref 148, .int a1, .int a2, .int a3, .null], [], sM Ln I L c s)) rfl (fun hc => ?_) (fun hc => ?_) (by omega)
  · have h := h.1 hc
    refine dd_Rn.cV 1 (pc := 76) (ls := [.ref 148, .int a1, .int a2, .int a3, .null]) (st := [.ref 148]) (x := m_X11_bringsBack) (as := [.ref 148]) (rest := []) rfl rfl rfl rfl h ?_
    intro I1 L1 h
    show dd_Rn (e + 16) m_X11_can (79, [.ref 148, .int a1, .int a2, .int a3, .null], [], sM Ln I1 L1 c s) _
    exact dd_Rn.go 4 (cf' := (84, [.ref 148, .int a1, .int a2, .int 0, .int 0], [], sM Ln I1 L1 c s)) rfl h (by omega)
  · have h := h.2 hc
    refine dd_Rn.ite 3 (c := a3 = 0) (A := (61, [.ref 148, .int a1, .int a2, .int a3, .null], [.int a1, .ref 148], sM Ln I L c s)) (B := (65, [.ref 148, .int a1, .int a2, .int a3, .null], [.int a1, .ref 148], sM Ln I L c s)) rfl (fun hc => ?_) (fun hc => ?_) (by omega)
    · have h := h.1 hc
      refine dd_Rn.cV 2 (pc := 66) (ls := [.ref 148, .int a1, .int a2, .int a3, .null]) (st := [.int 1, .int a1, .ref 148]) (x := m_X11_anyNote) (as := [.ref 148, .int a1, .int 1]) (rest := []) rfl rfl rfl rfl h ?_
      intro I2 L2 h
      show dd_Rn (e + 16) m_X11_can (69, [.ref 148, .int a1, .int a2, .int a3, .null], [], sM Ln I2 L2 c s) _
      exact dd_Rn.go 2 (cf' := (50, [.ref 148, .int a1, .int a2, .int (a3 + 1), .null], [], sM Ln I2 L2 c s)) rfl h (by omega)
    · have h := h.2 hc
      refine dd_Rn.cV 1 (pc := 66) (ls := [.ref 148, .int a1, .int a2, .int a3, .null]) (st := [.int 0, .int a1, .ref 148]) (x := m_X11_anyNote) (as := [.ref 148, .int a1, .int 0]) (rest := []) rfl rfl rfl rfl h ?_
      intro I3 L3 h
      show dd_Rn (e + 16) m_X11_can (69, [.ref 148, .int a1, .int a2, .int a3, .null], [], sM Ln I3 L3 c s) _
      exact dd_Rn.go 2 (cf' := (50, [.ref 148, .int a1, .int a2, .int (a3 + 1), .null], [], sM Ln I3 L3 c s)) rfl h (by omega)

theorem w_X11_can_84 {Ln d c s : Nat} {I : Nat → Nat → Int32} {L : Nat → Nat → Int64} {Q : dd_O → Prop} {a1 a2 a3 a4 : Int32} (hd : 28 ≤ d) (h : (((64 : Int32) ≤ a4 → Q (none, .int a3, sM Ln I L c s)) ∧ (¬ ((64 : Int32) ≤ a4) → ((0 ≤ a4 ∧ tn a4 < 64) ∧ ((I 159 (tn a4) = 0 → dd_Rn d m_X11_can (84, [.ref 148, .int a1, .int a2, .int (a3 + 0), .int (a4 + 1)], [], sM Ln I L c s) Q) ∧ (¬ (I 159 (tn a4) = 0) → dd_Rn d m_X11_can (84, [.ref 148, .int a1, .int a2, .int (a3 + 1), .int (a4 + 1)], [], sM Ln I L c s) Q)))))) : dd_Rn d m_X11_can (84, [.ref 148, .int a1, .int a2, .int a3, .int a4], [], sM Ln I L c s) Q := by
  obtain ⟨e, rfl⟩ : ∃ e, d = e + 16 := ⟨d - 16, by omega⟩
  refine dd_Rn.ite 2 (c := (64 : Int32) ≤ a4) (A := (115, [.ref 148, .int a1, .int a2, .int a3, .int a4], [], sM Ln I L c s)) (B := (91, [.ref 148, .int a1, .int a2, .int a3, .int a4], [], sM Ln I L c s)) rfl (fun hc => ?_) (fun hc => ?_) (by omega)
  · have h := h.1 hc
    exact dd_Rn.retK 1 (pc := 116) (ls := [.ref 148, .int a1, .int a2, .int a3, .int a4]) (st := [.int a3]) (M := sM Ln I L c s) (o := (none, .int a3, sM Ln I L c s)) rfl rfl h (by omega)
  · have h := h.2 hc
    obtain ⟨hc, h⟩ := h
    refine dd_Rn.chk 4 (c := 0 ≤ a4 ∧ tn a4 < 64) (A := (99, [.ref 148, .int a1, .int a2, .int a3, .int a4], [.int (I 159 (tn a4)), .int a3], sM Ln I L c s)) rfl hc ?_ (by omega)
    refine dd_Rn.ite 0 (c := I 159 (tn a4) = 0) (A := (106, [.ref 148, .int a1, .int a2, .int a3, .int a4], [.int a3], sM Ln I L c s)) (B := (102, [.ref 148, .int a1, .int a2, .int a3, .int a4], [.int a3], sM Ln I L c s)) rfl (fun hc => ?_) (fun hc => ?_) (by omega)
    · have h := h.1 hc
      exact dd_Rn.go 5 (cf' := (84, [.ref 148, .int a1, .int a2, .int (a3 + 0), .int (a4 + 1)], [], sM Ln I L c s)) rfl h (by omega)
    · have h := h.2 hc
      exact dd_Rn.go 6 (cf' := (84, [.ref 148, .int a1, .int a2, .int (a3 + 1), .int (a4 + 1)], [], sM Ln I L c s)) rfl h (by omega)

theorem w_X11_lost_0 {Ln d c s : Nat} {I : Nat → Nat → Int32} {L : Nat → Nat → Int64} {Q : dd_O → Prop} {a1 a2 : Int32} (hd : 28 ≤ d) (h : ((a1 < 0 → Q (none, .int 0, sM Ln (dd_u (dd_u I 148 (upd (I 148) 0 0)) 148 (upd (upd (I 148) 0 0) 0 1)) L c s)) ∧ (¬ (a1 < 0) → (((I 149 0) - 1 < a1 → Q (none, .int 0, sM Ln (dd_u (dd_u I 148 (upd (I 148) 0 0)) 148 (upd (upd (I 148) 0 0) 0 1)) L c s)) ∧ (¬ ((I 149 0) - 1 < a1) → ((a2 < 0 → Q (none, .int 0, sM Ln (dd_u (dd_u I 148 (upd (I 148) 0 0)) 148 (upd (upd (I 148) 0 0) 0 2)) L c s)) ∧ (¬ (a2 < 0) → (((15 : Int32) < a2 → Q (none, .int 0, sM Ln (dd_u (dd_u I 148 (upd (I 148) 0 0)) 148 (upd (upd (I 148) 0 0) 0 2)) L c s)) ∧ (¬ ((15 : Int32) < a2) → dd_Rn d m_X11_lost (51, [.ref 148, .int a1, .int a2, .int (-1), .int (-1), .int 0, .null], [], sM Ln (dd_u I 148 (upd (I 148) 0 0)) L c s) Q))))))))) : dd_Ev d m_X11_lost [.ref 148, .int a1, .int a2] (sM Ln I L c s) Q := by
  obtain ⟨e, rfl⟩ : ∃ e, d = e + 16 := ⟨d - 16, by omega⟩
  show dd_Rn (e + 16) m_X11_lost (0, [.ref 148, .int a1, .int a2, .null, .null, .null, .null], [], sM Ln I L c s) Q
  refine dd_Rn.sub 6 (pc := 8) (ls := [.ref 148, .int a1, .int a2, .null, .null, .null, .null]) (st := [.int a1, .ref 148, .ref 148]) (M := sM Ln (dd_u I 148 (upd (I 148) 0 0)) L c s) (x := m_X11_noPart) (as := [.ref 148, .int a1]) (rest := [.ref 148]) rfl rfl rfl rfl ?_
  show dd_Rn (e + 15) m_X11_noPart (0, [.ref 148, .int a1], [], sM Ln (dd_u I 148 (upd (I 148) 0 0)) L c s) _
  refine dd_Rn.sub 3 (pc := 3) (ls := [.ref 148, .int a1]) (st := [.ref 148, .int 0, .int a1]) (M := sM Ln (dd_u I 148 (upd (I 148) 0 0)) L c s) (x := m_X11_parts) (as := [.ref 148]) (rest := [.int 0, .int a1]) rfl rfl rfl rfl ?_
  show dd_Rn (e + 14) m_X11_parts (0, [.ref 148], [], sM Ln (dd_u I 148 (upd (I 148) 0 0)) L c s) _
  refine dd_Rn.retK 4 (pc := 6) (ls := [.ref 148]) (st := [.int (I 149 0)]) (M := sM Ln (dd_u I 148 (upd (I 148) 0 0)) L c s) (o := (none, .int (I 149 0), sM Ln (dd_u I 148 (upd (I 148) 0 0)) L c s)) rfl rfl (dd_Af.ret rfl ?_) (by omega)
  show dd_Rn (e + 15) m_X11_noPart (6, [.ref 148, .int a1], [.int (I 149 0), .int 0, .int a1], sM Ln (dd_u I 148 (upd (I 148) 0 0)) L c s) _
  refine dd_Rn.sub 2 (pc := 8) (ls := [.ref 148, .int a1]) (st := [.int ((I 149 0) - 1), .int 0, .int a1]) (M := sM Ln (dd_u I 148 (upd (I 148) 0 0)) L c s) (x := m_X11_in) (as := [.int a1, .int 0, .int ((I 149 0) - 1)]) (rest := []) rfl rfl rfl rfl ?_
  show dd_Rn (e + 14) m_X11_in (0, [.int a1, .int 0, .int ((I 149 0) - 1)], [], sM Ln (dd_u I 148 (upd (I 148) 0 0)) L c s) _
  refine dd_Rn.ite 2 (c := a1 < 0) (A := (14, [.int a1, .int 0, .int ((I 149 0) - 1)], [], sM Ln (dd_u I 148 (upd (I 148) 0 0)) L c s)) (B := (5, [.int a1, .int 0, .int ((I 149 0) - 1)], [], sM Ln (dd_u I 148 (upd (I 148) 0 0)) L c s)) rfl (fun hc => ?_) (fun hc => ?_) (by omega)
  · have h := h.1 hc
    refine dd_Rn.retK 1 (pc := 15) (ls := [.int a1, .int 0, .int ((I 149 0) - 1)]) (st := [.int 0]) (M := sM Ln (dd_u I 148 (upd (I 148) 0 0)) L c s) (o := (none, .int 0, sM Ln (dd_u I 148 (upd (I 148) 0 0)) L c s)) rfl rfl (dd_Af.ret rfl ?_) (by omega)
    show dd_Rn (e + 15) m_X11_noPart (11, [.ref 148, .int a1], [.int 0], sM Ln (dd_u I 148 (upd (I 148) 0 0)) L c s) _
    refine dd_Rn.retK 3 (pc := 19) (ls := [.ref 148, .int a1]) (st := [.int 1]) (M := sM Ln (dd_u I 148 (upd (I 148) 0 0)) L c s) (o := (none, .int 1, sM Ln (dd_u I 148 (upd (I 148) 0 0)) L c s)) rfl rfl (dd_Af.ret rfl ?_) (by omega)
    show dd_Rn (e + 16) m_X11_lost (11, [.ref 148, .int a1, .int a2, .null, .null, .null, .null], [.int 1, .ref 148], sM Ln (dd_u I 148 (upd (I 148) 0 0)) L c s) _
    refine dd_Rn.sub 1 (pc := 12) (ls := [.ref 148, .int a1, .int a2, .null, .null, .null, .null]) (st := [.int 1, .int 1, .ref 148]) (M := sM Ln (dd_u I 148 (upd (I 148) 0 0)) L c s) (x := m_X11_throwsIf) (as := [.ref 148, .int 1, .int 1]) (rest := []) rfl rfl rfl rfl ?_
    show dd_Rn (e + 15) m_X11_throwsIf (0, [.ref 148, .int 1, .int 1], [], sM Ln (dd_u I 148 (upd (I 148) 0 0)) L c s) _
    refine dd_Rn.retK 6 (pc := 10) (ls := [.ref 148, .int 1, .int 1]) (st := [.int 1]) (M := sM Ln (dd_u (dd_u I 148 (upd (I 148) 0 0)) 148 (upd (upd (I 148) 0 0) 0 1)) L c s) (o := (none, .int 1, sM Ln (dd_u (dd_u I 148 (upd (I 148) 0 0)) 148 (upd (upd (I 148) 0 0) 0 1)) L c s)) rfl rfl (dd_Af.ret rfl ?_) (by omega)
    show dd_Rn (e + 16) m_X11_lost (15, [.ref 148, .int a1, .int a2, .null, .null, .null, .null], [.int 1], sM Ln (dd_u (dd_u I 148 (upd (I 148) 0 0)) 148 (upd (upd (I 148) 0 0) 0 1)) L c s) _
    exact dd_Rn.retK 2 (pc := 42) (ls := [.ref 148, .int a1, .int a2, .null, .null, .null, .null]) (st := [.int 0]) (M := sM Ln (dd_u (dd_u I 148 (upd (I 148) 0 0)) 148 (upd (upd (I 148) 0 0) 0 1)) L c s) (o := (none, .int 0, sM Ln (dd_u (dd_u I 148 (upd (I 148) 0 0)) 148 (upd (upd (I 148) 0 0) 0 1)) L c s)) rfl rfl h (by omega)
  · have h := h.2 hc
    refine dd_Rn.ite 2 (c := (I 149 0) - 1 < a1) (A := (14, [.int a1, .int 0, .int ((I 149 0) - 1)], [], sM Ln (dd_u I 148 (upd (I 148) 0 0)) L c s)) (B := (10, [.int a1, .int 0, .int ((I 149 0) - 1)], [], sM Ln (dd_u I 148 (upd (I 148) 0 0)) L c s)) rfl (fun hc => ?_) (fun hc => ?_) (by omega)
    · have h := h.1 hc
      refine dd_Rn.retK 1 (pc := 15) (ls := [.int a1, .int 0, .int ((I 149 0) - 1)]) (st := [.int 0]) (M := sM Ln (dd_u I 148 (upd (I 148) 0 0)) L c s) (o := (none, .int 0, sM Ln (dd_u I 148 (upd (I 148) 0 0)) L c s)) rfl rfl (dd_Af.ret rfl ?_) (by omega)
      show dd_Rn (e + 15) m_X11_noPart (11, [.ref 148, .int a1], [.int 0], sM Ln (dd_u I 148 (upd (I 148) 0 0)) L c s) _
      refine dd_Rn.retK 3 (pc := 19) (ls := [.ref 148, .int a1]) (st := [.int 1]) (M := sM Ln (dd_u I 148 (upd (I 148) 0 0)) L c s) (o := (none, .int 1, sM Ln (dd_u I 148 (upd (I 148) 0 0)) L c s)) rfl rfl (dd_Af.ret rfl ?_) (by omega)
      show dd_Rn (e + 16) m_X11_lost (11, [.ref 148, .int a1, .int a2, .null, .null, .null, .null], [.int 1, .ref 148], sM Ln (dd_u I 148 (upd (I 148) 0 0)) L c s) _
      refine dd_Rn.sub 1 (pc := 12) (ls := [.ref 148, .int a1, .int a2, .null, .null, .null, .null]) (st := [.int 1, .int 1, .ref 148]) (M := sM Ln (dd_u I 148 (upd (I 148) 0 0)) L c s) (x := m_X11_throwsIf) (as := [.ref 148, .int 1, .int 1]) (rest := []) rfl rfl rfl rfl ?_
      show dd_Rn (e + 15) m_X11_throwsIf (0, [.ref 148, .int 1, .int 1], [], sM Ln (dd_u I 148 (upd (I 148) 0 0)) L c s) _
      refine dd_Rn.retK 6 (pc := 10) (ls := [.ref 148, .int 1, .int 1]) (st := [.int 1]) (M := sM Ln (dd_u (dd_u I 148 (upd (I 148) 0 0)) 148 (upd (upd (I 148) 0 0) 0 1)) L c s) (o := (none, .int 1, sM Ln (dd_u (dd_u I 148 (upd (I 148) 0 0)) 148 (upd (upd (I 148) 0 0) 0 1)) L c s)) rfl rfl (dd_Af.ret rfl ?_) (by omega)
      show dd_Rn (e + 16) m_X11_lost (15, [.ref 148, .int a1, .int a2, .null, .null, .null, .null], [.int 1], sM Ln (dd_u (dd_u I 148 (upd (I 148) 0 0)) 148 (upd (upd (I 148) 0 0) 0 1)) L c s) _
      exact dd_Rn.retK 2 (pc := 42) (ls := [.ref 148, .int a1, .int a2, .null, .null, .null, .null]) (st := [.int 0]) (M := sM Ln (dd_u (dd_u I 148 (upd (I 148) 0 0)) 148 (upd (upd (I 148) 0 0) 0 1)) L c s) (o := (none, .int 0, sM Ln (dd_u (dd_u I 148 (upd (I 148) 0 0)) 148 (upd (upd (I 148) 0 0) 0 1)) L c s)) rfl rfl h (by omega)
    · have h := h.2 hc
      refine dd_Rn.retK 2 (pc := 15) (ls := [.int a1, .int 0, .int ((I 149 0) - 1)]) (st := [.int 1]) (M := sM Ln (dd_u I 148 (upd (I 148) 0 0)) L c s) (o := (none, .int 1, sM Ln (dd_u I 148 (upd (I 148) 0 0)) L c s)) rfl rfl (dd_Af.ret rfl ?_) (by omega)
      show dd_Rn (e + 15) m_X11_noPart (11, [.ref 148, .int a1], [.int 1], sM Ln (dd_u I 148 (upd (I 148) 0 0)) L c s) _
      refine dd_Rn.retK 2 (pc := 19) (ls := [.ref 148, .int a1]) (st := [.int 0]) (M := sM Ln (dd_u I 148 (upd (I 148) 0 0)) L c s) (o := (none, .int 0, sM Ln (dd_u I 148 (upd (I 148) 0 0)) L c s)) rfl rfl (dd_Af.ret rfl ?_) (by omega)
      show dd_Rn (e + 16) m_X11_lost (11, [.ref 148, .int a1, .int a2, .null, .null, .null, .null], [.int 0, .ref 148], sM Ln (dd_u I 148 (upd (I 148) 0 0)) L c s) _
      refine dd_Rn.sub 1 (pc := 12) (ls := [.ref 148, .int a1, .int a2, .null, .null, .null, .null]) (st := [.int 1, .int 0, .ref 148]) (M := sM Ln (dd_u I 148 (upd (I 148) 0 0)) L c s) (x := m_X11_throwsIf) (as := [.ref 148, .int 0, .int 1]) (rest := []) rfl rfl rfl rfl ?_
      show dd_Rn (e + 15) m_X11_throwsIf (0, [.ref 148, .int 0, .int 1], [], sM Ln (dd_u I 148 (upd (I 148) 0 0)) L c s) _
      refine dd_Rn.retK 3 (pc := 10) (ls := [.ref 148, .int 0, .int 1]) (st := [.int 0]) (M := sM Ln (dd_u I 148 (upd (I 148) 0 0)) L c s) (o := (none, .int 0, sM Ln (dd_u I 148 (upd (I 148) 0 0)) L c s)) rfl rfl (dd_Af.ret rfl ?_) (by omega)
      show dd_Rn (e + 16) m_X11_lost (15, [.ref 148, .int a1, .int a2, .null, .null, .null, .null], [.int 0], sM Ln (dd_u I 148 (upd (I 148) 0 0)) L c s) _
      refine dd_Rn.sub 5 (pc := 23) (ls := [.ref 148, .int a1, .int a2, .null, .null, .null, .null]) (st := [.int 15, .int 0, .int a2, .ref 148]) (M := sM Ln (dd_u I 148 (upd (I 148) 0 0)) L c s) (x := m_X11_in) (as := [.int a2, .int 0, .int 15]) (rest := [.ref 148]) rfl rfl rfl rfl ?_
      show dd_Rn (e + 15) m_X11_in (0, [.int a2, .int 0, .int 15], [], sM Ln (dd_u I 148 (upd (I 148) 0 0)) L c s) _
      refine dd_Rn.ite 2 (c := a2 < 0) (A := (14, [.int a2, .int 0, .int 15], [], sM Ln (dd_u I 148 (upd (I 148) 0 0)) L c s)) (B := (5, [.int a2, .int 0, .int 15], [], sM Ln (dd_u I 148 (upd (I 148) 0 0)) L c s)) rfl (fun hc => ?_) (fun hc => ?_) (by omega)
      · have h := h.1 hc
        refine dd_Rn.retK 1 (pc := 15) (ls := [.int a2, .int 0, .int 15]) (st := [.int 0]) (M := sM Ln (dd_u I 148 (upd (I 148) 0 0)) L c s) (o := (none, .int 0, sM Ln (dd_u I 148 (upd (I 148) 0 0)) L c s)) rfl rfl (dd_Af.ret rfl ?_) (by omega)
        show dd_Rn (e + 16) m_X11_lost (26, [.ref 148, .int a1, .int a2, .null, .null, .null, .null], [.int 0, .ref 148], sM Ln (dd_u I 148 (upd (I 148) 0 0)) L c s) _
        refine dd_Rn.sub 4 (pc := 35) (ls := [.ref 148, .int a1, .int a2, .null, .null, .null, .null]) (st := [.int 2, .int 1, .ref 148]) (M := sM Ln (dd_u I 148 (upd (I 148) 0 0)) L c s) (x := m_X11_throwsIf) (as := [.ref 148, .int 1, .int 2]) (rest := []) rfl rfl rfl rfl ?_
        show dd_Rn (e + 15) m_X11_throwsIf (0, [.ref 148, .int 1, .int 2], [], sM Ln (dd_u I 148 (upd (I 148) 0 0)) L c s) _
        refine dd_Rn.retK 6 (pc := 10) (ls := [.ref 148, .int 1, .int 2]) (st := [.int 1]) (M := sM Ln (dd_u (dd_u I 148 (upd (I 148) 0 0)) 148 (upd (upd (I 148) 0 0) 0 2)) L c s) (o := (none, .int 1, sM Ln (dd_u (dd_u I 148 (upd (I 148) 0 0)) 148 (upd (upd (I 148) 0 0) 0 2)) L c s)) rfl rfl (dd_Af.ret rfl ?_) (by omega)
        show dd_Rn (e + 16) m_X11_lost (38, [.ref 148, .int a1, .int a2, .null, .null, .null, .null], [.int 1], sM Ln (dd_u (dd_u I 148 (upd (I 148) 0 0)) 148 (upd (upd (I 148) 0 0) 0 2)) L c s) _
        exact dd_Rn.retK 2 (pc := 42) (ls := [.ref 148, .int a1, .int a2, .null, .null, .null, .null]) (st := [.int 0]) (M := sM Ln (dd_u (dd_u I 148 (upd (I 148) 0 0)) 148 (upd (upd (I 148) 0 0) 0 2)) L c s) (o := (none, .int 0, sM Ln (dd_u (dd_u I 148 (upd (I 148) 0 0)) 148 (upd (upd (I 148) 0 0) 0 2)) L c s)) rfl rfl h (by omega)
      · have h := h.2 hc
        refine dd_Rn.ite 2 (c := (15 : Int32) < a2) (A := (14, [.int a2, .int 0, .int 15], [], sM Ln (dd_u I 148 (upd (I 148) 0 0)) L c s)) (B := (10, [.int a2, .int 0, .int 15], [], sM Ln (dd_u I 148 (upd (I 148) 0 0)) L c s)) rfl (fun hc => ?_) (fun hc => ?_) (by omega)
        · have h := h.1 hc
          refine dd_Rn.retK 1 (pc := 15) (ls := [.int a2, .int 0, .int 15]) (st := [.int 0]) (M := sM Ln (dd_u I 148 (upd (I 148) 0 0)) L c s) (o := (none, .int 0, sM Ln (dd_u I 148 (upd (I 148) 0 0)) L c s)) rfl rfl (dd_Af.ret rfl ?_) (by omega)
          show dd_Rn (e + 16) m_X11_lost (26, [.ref 148, .int a1, .int a2, .null, .null, .null, .null], [.int 0, .ref 148], sM Ln (dd_u I 148 (upd (I 148) 0 0)) L c s) _
          refine dd_Rn.sub 4 (pc := 35) (ls := [.ref 148, .int a1, .int a2, .null, .null, .null, .null]) (st := [.int 2, .int 1, .ref 148]) (M := sM Ln (dd_u I 148 (upd (I 148) 0 0)) L c s) (x := m_X11_throwsIf) (as := [.ref 148, .int 1, .int 2]) (rest := []) rfl rfl rfl rfl ?_
          show dd_Rn (e + 15) m_X11_throwsIf (0, [.ref 148, .int 1, .int 2], [], sM Ln (dd_u I 148 (upd (I 148) 0 0)) L c s) _
          refine dd_Rn.retK 6 (pc := 10) (ls := [.ref 148, .int 1, .int 2]) (st := [.int 1]) (M := sM Ln (dd_u (dd_u I 148 (upd (I 148) 0 0)) 148 (upd (upd (I 148) 0 0) 0 2)) L c s) (o := (none, .int 1, sM Ln (dd_u (dd_u I 148 (upd (I 148) 0 0)) 148 (upd (upd (I 148) 0 0) 0 2)) L c s)) rfl rfl (dd_Af.ret rfl ?_) (by omega)
          show dd_Rn (e + 16) m_X11_lost (38, [.ref 148, .int a1, .int a2, .null, .null, .null, .null], [.int 1], sM Ln (dd_u (dd_u I 148 (upd (I 148) 0 0)) 148 (upd (upd (I 148) 0 0) 0 2)) L c s) _
          exact dd_Rn.retK 2 (pc := 42) (ls := [.ref 148, .int a1, .int a2, .null, .null, .null, .null]) (st := [.int 0]) (M := sM Ln (dd_u (dd_u I 148 (upd (I 148) 0 0)) 148 (upd (upd (I 148) 0 0) 0 2)) L c s) (o := (none, .int 0, sM Ln (dd_u (dd_u I 148 (upd (I 148) 0 0)) 148 (upd (upd (I 148) 0 0) 0 2)) L c s)) rfl rfl h (by omega)
        · have h := h.2 hc
          refine dd_Rn.retK 2 (pc := 15) (ls := [.int a2, .int 0, .int 15]) (st := [.int 1]) (M := sM Ln (dd_u I 148 (upd (I 148) 0 0)) L c s) (o := (none, .int 1, sM Ln (dd_u I 148 (upd (I 148) 0 0)) L c s)) rfl rfl (dd_Af.ret rfl ?_) (by omega)
          show dd_Rn (e + 16) m_X11_lost (26, [.ref 148, .int a1, .int a2, .null, .null, .null, .null], [.int 1, .ref 148], sM Ln (dd_u I 148 (upd (I 148) 0 0)) L c s) _
          refine dd_Rn.sub 3 (pc := 35) (ls := [.ref 148, .int a1, .int a2, .null, .null, .null, .null]) (st := [.int 2, .int 0, .ref 148]) (M := sM Ln (dd_u I 148 (upd (I 148) 0 0)) L c s) (x := m_X11_throwsIf) (as := [.ref 148, .int 0, .int 2]) (rest := []) rfl rfl rfl rfl ?_
          show dd_Rn (e + 15) m_X11_throwsIf (0, [.ref 148, .int 0, .int 2], [], sM Ln (dd_u I 148 (upd (I 148) 0 0)) L c s) _
          refine dd_Rn.retK 3 (pc := 10) (ls := [.ref 148, .int 0, .int 2]) (st := [.int 0]) (M := sM Ln (dd_u I 148 (upd (I 148) 0 0)) L c s) (o := (none, .int 0, sM Ln (dd_u I 148 (upd (I 148) 0 0)) L c s)) rfl rfl (dd_Af.ret rfl ?_) (by omega)
          show dd_Rn (e + 16) m_X11_lost (38, [.ref 148, .int a1, .int a2, .null, .null, .null, .null], [.int 0], sM Ln (dd_u I 148 (upd (I 148) 0 0)) L c s) _
          exact dd_Rn.go 7 (cf' := (51, [.ref 148, .int a1, .int a2, .int (-1), .int (-1), .int 0, .null], [], sM Ln (dd_u I 148 (upd (I 148) 0 0)) L c s)) rfl h (by omega)

theorem w_X11_lost_51 {Ln d c s : Nat} {I : Nat → Nat → Int32} {L : Nat → Nat → Int64} {Q : dd_O → Prop} {a1 a2 a3 a4 a5 : Int32} {a6 : Value} (hd : 28 ≤ d) (h : (((64 : Int32) ≤ a5 → Q (none, .int a3, sM Ln I L c s)) ∧ (¬ ((64 : Int32) ≤ a5) → ((0 ≤ (11 : Int32) + a5 ∧ tn ((11 : Int32) + a5) < 2220) ∧ ((I 149 (tn ((11 : Int32) + a5)) = 1 → (((-1 : Int32) ≤ a4 → dd_Rn d m_X11_lost (51, [.ref 148, .int a1, .int a2, .int a3, .int (if a4 < (-1) then (-1) else a4), .int (a5 + 1), .int (-1)], [], sM Ln I L c s) Q) ∧ (¬ ((-1 : Int32) ≤ a4) → dd_Rn d m_X11_lost (51, [.ref 148, .int a1, .int a2, .int a5, .int (if a4 < (-1) then (-1) else a4), .int (a5 + 1), .int (-1)], [], sM Ln I L c s) Q))) ∧ (¬ (I 149 (tn ((11 : Int32) + a5)) = 1) → dd_Ev (d - 1) m_X11_latestFrom [.ref 148, .int a5, .int a1, .int a2] (sM Ln I L c s) (dd_RI Ln c s (fun x1 I1 L1 => ((x1 ≤ a4 → dd_Rn d m_X11_lost (51, [.ref 148, .int a1, .int a2, .int a3, .int (if a4 < x1 then x1 else a4), .int (a5 + 1), .int x1], [], sM Ln I1 L1 c s) Q) ∧ (¬ (x1 ≤ a4) → dd_Rn d m_X11_lost (51, [.ref 148, .int a1, .int a2, .int a5, .int (if a4 < x1 then x1 else a4), .int (a5 + 1), .int x1], [], sM Ln I1 L1 c s) Q)))))))))) : dd_Rn d m_X11_lost (51, [.ref 148, .int a1, .int a2, .int a3, .int a4, .int a5, a6], [], sM Ln I L c s) Q := by
  obtain ⟨e, rfl⟩ : ∃ e, d = e + 16 := ⟨d - 16, by omega⟩
  refine dd_Rn.ite 2 (c := (64 : Int32) ≤ a5) (A := (110, [.ref 148, .int a1, .int a2, .int a3, .int a4, .int a5, a6], [], sM Ln I L c s)) (B := (58, [.ref 148, .int a1, .int a2, .int a3, .int a4, .int a5, a6], [], sM Ln I L c s)) rfl (fun hc => ?_) (fun hc => ?_) (by omega)
  · have h := h.1 hc
    exact dd_Rn.retK 1 (pc := 111) (ls := [.ref 148, .int a1, .int a2, .int a3, .int a4, .int a5, a6]) (st := [.int a3]) (M := sM Ln I L c s) (o := (none, .int a3, sM Ln I L c s)) rfl rfl h (by omega)
  · have h := h.2 hc
    refine dd_Rn.sub 2 (pc := 61) (ls := [.ref 148, .int a1, .int a2, .int a3, .int a4, .int a5, a6]) (st := [.int a5, .ref 148]) (M := sM Ln I L c s) (x := m_X11_hasTrees) (as := [.ref 148, .int a5]) (rest := []) rfl rfl rfl rfl ?_
    show dd_Rn (e + 15) m_X11_hasTrees (0, [.ref 148, .int a5], [], sM Ln I L c s) _
    obtain ⟨hc, h⟩ := h
    refine dd_Rn.go 5 (cf' := (8, [.ref 148, .int a5], [.int ((11 : Int32) + a5), .ref 149], sM Ln I L c s)) rfl ?_ (by omega)
    refine dd_Rn.ci (fun j0 => (8, [.ref 148, .int a5], [.int j0, .ref 149], sM Ln I L c s)) (fun j0 => (9, [.ref 148, .int a5], [.int (I 149 (tn j0))], sM Ln I L c s)) (fun j0 => 0 ≤ j0 ∧ tn j0 < 2220) ((11 : Int32) + a5) (fun j0 hc h => dd_Rn.chk 0 (c := 0 ≤ j0 ∧ tn j0 < 2220) (A := (9, [.ref 148, .int a5], [.int (I 149 (tn j0))], sM Ln I L c s)) rfl hc h (by omega)) hc ?_
    refine dd_Rn.se (cf := (9, [.ref 148, .int a5], [.int (I 149 (tn ((11 : Int32) + a5)))], sM Ln I L c s)) ?_
    refine dd_Rn.ite 1 (c := I 149 (tn ((11 : Int32) + a5)) = 1) (A := (13, [.ref 148, .int a5], [], sM Ln I L c s)) (B := (17, [.ref 148, .int a5], [], sM Ln I L c s)) rfl (fun hc => ?_) (fun hc => ?_) (by omega)
    · have h := h.1 hc
      refine dd_Rn.retK 2 (pc := 18) (ls := [.ref 148, .int a5]) (st := [.int 1]) (M := sM Ln I L c s) (o := (none, .int 1, sM Ln I L c s)) rfl rfl (dd_Af.ret rfl ?_) (by omega)
      show dd_Rn (e + 16) m_X11_lost (64, [.ref 148, .int a1, .int a2, .int a3, .int a4, .int a5, a6], [.int 1], sM Ln I L c s) _
      refine dd_Rn.ite 6 (c := (-1 : Int32) ≤ a4) (A := (93, [.ref 148, .int a1, .int a2, .int a3, .int a4, .int a5, .int (-1)], [], sM Ln I L c s)) (B := (88, [.ref 148, .int a1, .int a2, .int a3, .int a4, .int a5, .int (-1)], [], sM Ln I L c s)) rfl (fun hc => ?_) (fun hc => ?_) (by omega)
      · have h := h.1 hc
        exact dd_Rn.go 8 (cf' := (51, [.ref 148, .int a1, .int a2, .int a3, .int (if a4 < (-1) then (-1) else a4), .int (a5 + 1), .int (-1)], [], sM Ln I L c s)) rfl h (by omega)
      · have h := h.2 hc
        exact dd_Rn.go 9 (cf' := (51, [.ref 148, .int a1, .int a2, .int a5, .int (if a4 < (-1) then (-1) else a4), .int (a5 + 1), .int (-1)], [], sM Ln I L c s)) rfl h (by omega)
    · have h := h.2 hc
      refine dd_Rn.retK 1 (pc := 18) (ls := [.ref 148, .int a5]) (st := [.int 0]) (M := sM Ln I L c s) (o := (none, .int 0, sM Ln I L c s)) rfl rfl (dd_Af.ret rfl ?_) (by omega)
      show dd_Rn (e + 16) m_X11_lost (64, [.ref 148, .int a1, .int a2, .int a3, .int a4, .int a5, a6], [.int 0], sM Ln I L c s) _
      refine dd_Rn.cI 5 (pc := 76) (ls := [.ref 148, .int a1, .int a2, .int a3, .int a4, .int a5, a6]) (st := [.int a2, .int a1, .int a5, .ref 148]) (x := m_X11_latestFrom) (as := [.ref 148, .int a5, .int a1, .int a2]) (rest := []) rfl rfl rfl rfl h ?_
      intro x1 I1 L1 h
      show dd_Rn (e + 16) m_X11_lost (79, [.ref 148, .int a1, .int a2, .int a3, .int a4, .int a5, a6], [.int x1], sM Ln I1 L1 c s) _
      refine dd_Rn.ite 3 (c := x1 ≤ a4) (A := (93, [.ref 148, .int a1, .int a2, .int a3, .int a4, .int a5, .int x1], [], sM Ln I1 L1 c s)) (B := (88, [.ref 148, .int a1, .int a2, .int a3, .int a4, .int a5, .int x1], [], sM Ln I1 L1 c s)) rfl (fun hc => ?_) (fun hc => ?_) (by omega)
      · have h := h.1 hc
        exact dd_Rn.go 8 (cf' := (51, [.ref 148, .int a1, .int a2, .int a3, .int (if a4 < x1 then x1 else a4), .int (a5 + 1), .int x1], [], sM Ln I1 L1 c s)) rfl h (by omega)
      · have h := h.2 hc
        exact dd_Rn.go 9 (cf' := (51, [.ref 148, .int a1, .int a2, .int a5, .int (if a4 < x1 then x1 else a4), .int (a5 + 1), .int x1], [], sM Ln I1 L1 c s)) rfl h (by omega)

theorem w_X11_laysNears_0 {Ln d c s : Nat} {I : Nat → Nat → Int32} {L : Nat → Nat → Int64} {Q : dd_O → Prop} (hd : 28 ≤ d) (h : dd_Rn d m_X11_laysNears (2, [.ref 148, .int 0, .null], [], sM Ln I L c s) Q) : dd_Ev d m_X11_laysNears [.ref 148] (sM Ln I L c s) Q := by
  obtain ⟨e, rfl⟩ : ∃ e, d = e + 16 := ⟨d - 16, by omega⟩
  show dd_Rn (e + 16) m_X11_laysNears (0, [.ref 148, .null, .null], [], sM Ln I L c s) Q
  exact dd_Rn.go 2 (cf' := (2, [.ref 148, .int 0, .null], [], sM Ln I L c s)) rfl h (by omega)

theorem w_X11_laysNears_2 {Ln d c s : Nat} {I : Nat → Nat → Int32} {L : Nat → Nat → Int64} {Q : dd_O → Prop} {a1 : Int32} {a2 : Value} (hd : 28 ≤ d) (h : (((64 : Int32) ≤ a1 → Q (none, .null, sM Ln I L c s)) ∧ (¬ ((64 : Int32) ≤ a1) → dd_Ev (d - 1) m_X11_keepsAll [.ref 148] (sM Ln I L c s) (dd_RV Ln c s (fun I1 L1 => dd_Ev (d - 1) m_X11_thinksOf [.ref 148, .int 0, .int a1, .int 0, .int 15] (sM Ln I1 L1 c s) (dd_RV Ln c s (fun I2 L2 => dd_Rn d m_X11_laysNears (23, [.ref 148, .int a1, .int 0], [], sM Ln I2 L2 c s) Q))))))) : dd_Rn d m_X11_laysNears (2, [.ref 148, .int a1, a2], [], sM Ln I L c s) Q := by
  obtain ⟨e, rfl⟩ : ∃ e, d = e + 16 := ⟨d - 16, by omega⟩
  refine dd_Rn.ite 2 (c := (64 : Int32) ≤ a1) (A := (71, [.ref 148, .int a1, a2], [], sM Ln I L c s)) (B := (8, [.ref 148, .int a1, a2], [], sM Ln I L c s)) rfl (fun hc => ?_) (fun hc => ?_) (by omega)
  · have h := h.1 hc
    exact dd_Rn.retK 0 (pc := 71) (ls := [.ref 148, .int a1, a2]) (st := []) (M := sM Ln I L c s) (o := (none, .null, sM Ln I L c s)) rfl rfl h (by omega)
  · have h := h.2 hc
    refine dd_Rn.cV 1 (pc := 9) (ls := [.ref 148, .int a1, a2]) (st := [.ref 148]) (x := m_X11_keepsAll) (as := [.ref 148]) (rest := []) rfl rfl rfl rfl h ?_
    intro I1 L1 h
    show dd_Rn (e + 16) m_X11_laysNears (12, [.ref 148, .int a1, a2], [], sM Ln I1 L1 c s) _
    refine dd_Rn.cV 5 (pc := 18) (ls := [.ref 148, .int a1, a2]) (st := [.int 15, .int 0, .int a1, .int 0, .ref 148]) (x := m_X11_thinksOf) (as := [.ref 148, .int 0, .int a1, .int 0, .int 15]) (rest := []) rfl rfl rfl rfl h ?_
    intro I2 L2 h
    show dd_Rn (e + 16) m_X11_laysNears (21, [.ref 148, .int a1, a2], [], sM Ln I2 L2 c s) _
    exact dd_Rn.go 2 (cf' := (23, [.ref 148, .int a1, .int 0], [], sM Ln I2 L2 c s)) rfl h (by omega)

theorem w_X11_laysNears_23 {Ln d c s : Nat} {I : Nat → Nat → Int32} {L : Nat → Nat → Int64} {Q : dd_O → Prop} {a1 a2 : Int32} (hd : 28 ≤ d) (h : (((30 : Int32) < a2 → dd_Ev (d - 1) m_X11_bringsBack [.ref 148] (sM Ln I L c s) (dd_RV Ln c s (fun I1 L1 => dd_Rn d m_X11_laysNears (2, [.ref 148, .int (a1 + 1), .int a2], [], sM Ln I1 L1 c s) Q))) ∧ (¬ ((30 : Int32) < a2) → ((0 ≤ ((187 : Int32) + ((5 : Int32) * 0)) + 0 ∧ tn (((187 : Int32) + ((5 : Int32) * 0)) + 0) < 2220) ∧ dd_Ev (d - 1) m_X11_nearOf [.ref 148, .int (I 149 (tn (((187 : Int32) + ((5 : Int32) * 0)) + 0)))] (sM Ln I L c s) (dd_RI Ln c s (fun x2 I2 L2 => ((0 ≤ ((31 : Int32) * a1) + a2 ∧ tn (((31 : Int32) * a1) + a2) < 1984) ∧ dd_Ev (d - 1) m_X11_beatFor [.ref 148, .int 0] (sM Ln (dd_u I2 161 (upd (I2 161) (tn (((31 : Int32) * a1) + a2)) x2)) L2 c s) (dd_RV Ln c s (fun I3 L3 => dd_Rn d m_X11_laysNears (23, [.ref 148, .int a1, .int (a2 + 1)], [], sM Ln I3 L3 c s) Q))))))))) : dd_Rn d m_X11_laysNears (23, [.ref 148, .int a1, .int a2], [], sM Ln I L c s) Q := by
  obtain ⟨e, rfl⟩ : ∃ e, d = e + 16 := ⟨d - 16, by omega⟩
  refine dd_Rn.ite 2 (c := (30 : Int32) < a2) (A := (61, [.ref 148, .int a1, .int a2], [], sM Ln I L c s)) (B := (29, [.ref 148, .int a1, .int a2], [], sM Ln I L c s)) rfl (fun hc => ?_) (fun hc => ?_) (by omega)
  · have h := h.1 hc
    refine dd_Rn.cV 1 (pc := 62) (ls := [.ref 148, .int a1, .int a2]) (st := [.ref 148]) (x := m_X11_bringsBack) (as := [.ref 148]) (rest := []) rfl rfl rfl rfl h ?_
    intro I1 L1 h
    show dd_Rn (e + 16) m_X11_laysNears (65, [.ref 148, .int a1, .int a2], [], sM Ln I1 L1 c s) _
    exact dd_Rn.go 2 (cf' := (2, [.ref 148, .int (a1 + 1), .int a2], [], sM Ln I1 L1 c s)) rfl h (by omega)
  · have h := h.2 hc
    refine dd_Rn.sub 11 (pc := 43) (ls := [.ref 148, .int a1, .int a2]) (st := [.int 0, .int 0, .ref 148, .ref 148, .int (((31 : Int32) * a1) + a2), .ref 161]) (M := sM Ln I L c s) (x := m_X11_of) (as := [.ref 148, .int 0, .int 0]) (rest := [.ref 148, .int (((31 : Int32) * a1) + a2), .ref 161]) rfl rfl rfl rfl ?_
    show dd_Rn (e + 15) m_X11_of (0, [.ref 148, .int 0, .int 0], [], sM Ln I L c s) _
    refine dd_Rn.sub 4 (pc := 6) (ls := [.ref 148, .int 0, .int 0]) (st := [.int 0, .int 0, .ref 149]) (M := sM Ln I L c s) (x := m_X11_at) (as := [.int 0, .int 0]) (rest := [.ref 149]) rfl rfl rfl rfl ?_
    show dd_Rn (e + 14) m_X11_at (0, [.int 0, .int 0], [], sM Ln I L c s) _
    refine dd_Rn.retK 7 (pc := 9) (ls := [.int 0, .int 0]) (st := [.int (((187 : Int32) + ((5 : Int32) * 0)) + 0)]) (M := sM Ln I L c s) (o := (none, .int (((187 : Int32) + ((5 : Int32) * 0)) + 0), sM Ln I L c s)) rfl rfl (dd_Af.ret rfl ?_) (by omega)
    show dd_Rn (e + 15) m_X11_of (9, [.ref 148, .int 0, .int 0], [.int (((187 : Int32) + ((5 : Int32) * 0)) + 0), .ref 149], sM Ln I L c s) _
    obtain ⟨hc, h⟩ := h
    refine dd_Rn.ci (fun j0 => (9, [.ref 148, .int 0, .int 0], [.int j0, .ref 149], sM Ln I L c s)) (fun j0 => (10, [.ref 148, .int 0, .int 0], [.int (I 149 (tn j0))], sM Ln I L c s)) (fun j0 => 0 ≤ j0 ∧ tn j0 < 2220) (((187 : Int32) + ((5 : Int32) * 0)) + 0) (fun j0 hc h => dd_Rn.chk 0 (c := 0 ≤ j0 ∧ tn j0 < 2220) (A := (10, [.ref 148, .int 0, .int 0], [.int (I 149 (tn j0))], sM Ln I L c s)) rfl hc h (by omega)) hc ?_
    refine dd_Rn.se (cf := (10, [.ref 148, .int 0, .int 0], [.int (I 149 (tn (((187 : Int32) + ((5 : Int32) * 0)) + 0)))], sM Ln I L c s)) ?_
    refine dd_Rn.retK 0 (pc := 10) (ls := [.ref 148, .int 0, .int 0]) (st := [.int (I 149 (tn (((187 : Int32) + ((5 : Int32) * 0)) + 0)))]) (M := sM Ln I L c s) (o := (none, .int (I 149 (tn (((187 : Int32) + ((5 : Int32) * 0)) + 0))), sM Ln I L c s)) rfl rfl (dd_Af.ret rfl ?_) (by omega)
    show dd_Rn (e + 16) m_X11_laysNears (46, [.ref 148, .int a1, .int a2], [.int (I 149 (tn (((187 : Int32) + ((5 : Int32) * 0)) + 0))), .ref 148, .int (((31 : Int32) * a1) + a2), .ref 161], sM Ln I L c s) _
    refine dd_Rn.cI 0 (pc := 46) (ls := [.ref 148, .int a1, .int a2]) (st := [.int (I 149 (tn (((187 : Int32) + ((5 : Int32) * 0)) + 0))), .ref 148, .int (((31 : Int32) * a1) + a2), .ref 161]) (x := m_X11_nearOf) (as := [.ref 148, .int (I 149 (tn (((187 : Int32) + ((5 : Int32) * 0)) + 0)))]) (rest := [.int (((31 : Int32) * a1) + a2), .ref 161]) rfl rfl rfl rfl h ?_
    intro x2 I2 L2 h
    show dd_Rn (e + 16) m_X11_laysNears (49, [.ref 148, .int a1, .int a2], [.int x2, .int (((31 : Int32) * a1) + a2), .ref 161], sM Ln I2 L2 c s) _
    obtain ⟨hc, h⟩ := h
    refine dd_Rn.ci (fun j0 => (49, [.ref 148, .int a1, .int a2], [.int x2, .int j0, .ref 161], sM Ln I2 L2 c s)) (fun j0 => (50, [.ref 148, .int a1, .int a2], [], sM Ln (dd_u I2 161 (upd (I2 161) (tn j0) x2)) L2 c s)) (fun j0 => 0 ≤ j0 ∧ tn j0 < 1984) (((31 : Int32) * a1) + a2) (fun j0 hc h => dd_Rn.chk 0 (c := 0 ≤ j0 ∧ tn j0 < 1984) (A := (50, [.ref 148, .int a1, .int a2], [], sM Ln (dd_u I2 161 (upd (I2 161) (tn j0) x2)) L2 c s)) rfl hc h (by omega)) hc ?_
    refine dd_Rn.se (cf := (50, [.ref 148, .int a1, .int a2], [], sM Ln (dd_u I2 161 (upd (I2 161) (tn (((31 : Int32) * a1) + a2)) x2)) L2 c s)) ?_
    refine dd_Rn.cV 2 (pc := 52) (ls := [.ref 148, .int a1, .int a2]) (st := [.int 0, .ref 148]) (x := m_X11_beatFor) (as := [.ref 148, .int 0]) (rest := []) rfl rfl rfl rfl h ?_
    intro I3 L3 h
    show dd_Rn (e + 16) m_X11_laysNears (55, [.ref 148, .int a1, .int a2], [], sM Ln I3 L3 c s) _
    exact dd_Rn.go 2 (cf' := (23, [.ref 148, .int a1, .int (a2 + 1)], [], sM Ln I3 L3 c s)) rfl h (by omega)

theorem w_X11_isSounding_0 {Ln d c s : Nat} {I : Nat → Nat → Int32} {L : Nat → Nat → Int64} {Q : dd_O → Prop} (hd : 28 ≤ d) (h : (((I 148 11) - (I 148 11) / 2 * 2 = 0 → (((40 : Int32) < I 148 11 → dd_Rn d m_X11_isSounding (33, [.ref 148, .int 0, .int 0], [], sM Ln I L c s) Q) ∧ (¬ ((40 : Int32) < I 148 11) → ((I 149 0 ≤ 0 → dd_Rn d m_X11_isSounding (33, [.ref 148, .int 0, .int 0], [], sM Ln I L c s) Q) ∧ (¬ (I 149 0 ≤ 0) → dd_Rn d m_X11_isSounding (33, [.ref 148, .int 1, .int 0], [], sM Ln I L c s) Q))))) ∧ (¬ ((I 148 11) - (I 148 11) / 2 * 2 = 0) → dd_Rn d m_X11_isSounding (33, [.ref 148, .int 0, .int 0], [], sM Ln I L c s) Q))) : dd_Ev d m_X11_isSounding [.ref 148] (sM Ln I L c s) Q := by
  obtain ⟨e, rfl⟩ : ∃ e, d = e + 16 := ⟨d - 16, by omega⟩
  show dd_Rn (e + 16) m_X11_isSounding (0, [.ref 148, .null, .null], [], sM Ln I L c s) Q
  refine dd_Rn.ite 4 (c := (I 148 11) - (I 148 11) / 2 * 2 = 0) (A := (9, [.ref 148, .null, .null], [], sM Ln I L c s)) (B := (29, [.ref 148, .null, .null], [], sM Ln I L c s)) rfl (fun hc => ?_) (fun hc => ?_) (by omega)
  · have h := h.1 hc
    refine dd_Rn.ite 3 (c := (40 : Int32) < I 148 11) (A := (29, [.ref 148, .null, .null], [], sM Ln I L c s)) (B := (18, [.ref 148, .null, .null], [], sM Ln I L c s)) rfl (fun hc => ?_) (fun hc => ?_) (by omega)
    · have h := h.1 hc
      exact dd_Rn.go 4 (cf' := (33, [.ref 148, .int 0, .int 0], [], sM Ln I L c s)) rfl h (by omega)
    · have h := h.2 hc
      refine dd_Rn.sub 1 (pc := 19) (ls := [.ref 148, .null, .null]) (st := [.ref 148]) (M := sM Ln I L c s) (x := m_X11_parts) (as := [.ref 148]) (rest := []) rfl rfl rfl rfl ?_
      show dd_Rn (e + 15) m_X11_parts (0, [.ref 148], [], sM Ln I L c s) _
      refine dd_Rn.retK 4 (pc := 6) (ls := [.ref 148]) (st := [.int (I 149 0)]) (M := sM Ln I L c s) (o := (none, .int (I 149 0), sM Ln I L c s)) rfl rfl (dd_Af.ret rfl ?_) (by omega)
      show dd_Rn (e + 16) m_X11_isSounding (22, [.ref 148, .null, .null], [.int (I 149 0)], sM Ln I L c s) _
      refine dd_Rn.ite 0 (c := I 149 0 ≤ 0) (A := (29, [.ref 148, .null, .null], [], sM Ln I L c s)) (B := (25, [.ref 148, .null, .null], [], sM Ln I L c s)) rfl (fun hc => ?_) (fun hc => ?_) (by omega)
      · have h := h.1 hc
        exact dd_Rn.go 4 (cf' := (33, [.ref 148, .int 0, .int 0], [], sM Ln I L c s)) rfl h (by omega)
      · have h := h.2 hc
        exact dd_Rn.go 5 (cf' := (33, [.ref 148, .int 1, .int 0], [], sM Ln I L c s)) rfl h (by omega)
  · have h := h.2 hc
    exact dd_Rn.go 4 (cf' := (33, [.ref 148, .int 0, .int 0], [], sM Ln I L c s)) rfl h (by omega)

theorem w_X11_isSounding_33 {Ln d c s : Nat} {I : Nat → Nat → Int32} {L : Nat → Nat → Int64} {Q : dd_O → Prop} {a1 a2 : Int32} (hd : 28 ≤ d) (h : ((I 148 11 ≤ a2 → ((a1 = 0 ∨ a1 = 1) ∧ Q (none, .int a1, sM Ln I L c s))) ∧ (¬ (I 148 11 ≤ a2) → ((a1 = 0 → ((a1 = 0 ∨ a1 = 1) ∧ Q (none, .int a1, sM Ln I L c s))) ∧ (¬ (a1 = 0) → ((0 ≤ a2 ∧ tn a2 < 400) ∧ ((I 154 (tn a2) < 0 → dd_Rn d m_X11_isSounding (33, [.ref 148, .int 0, .int (a2 + 2)], [], sM Ln I L c s) Q) ∧ (¬ (I 154 (tn a2) < 0) → (((30 : Int32) < I 154 (tn a2) → dd_Rn d m_X11_isSounding (33, [.ref 148, .int 0, .int (a2 + 2)], [], sM Ln I L c s) Q) ∧ (¬ ((30 : Int32) < I 154 (tn a2)) → ((0 ≤ a2 + 1 ∧ tn (a2 + 1) < 400) ∧ ((I 154 (tn (a2 + 1)) < 0 → dd_Rn d m_X11_isSounding (33, [.ref 148, .int 0, .int (a2 + 2)], [], sM Ln I L c s) Q) ∧ (¬ (I 154 (tn (a2 + 1)) < 0) → (((14 : Int32) < I 154 (tn (a2 + 1)) → dd_Rn d m_X11_isSounding (33, [.ref 148, .int 0, .int (a2 + 2)], [], sM Ln I L c s) Q) ∧ (¬ ((14 : Int32) < I 154 (tn (a2 + 1))) → dd_Rn d m_X11_isSounding (33, [.ref 148, .int 1, .int (a2 + 2)], [], sM Ln I L c s) Q))))))))))))))) : dd_Rn d m_X11_isSounding (33, [.ref 148, .int a1, .int a2], [], sM Ln I L c s) Q := by
  obtain ⟨e, rfl⟩ : ∃ e, d = e + 16 := ⟨d - 16, by omega⟩
  refine dd_Rn.ite 3 (c := I 148 11 ≤ a2) (A := (89, [.ref 148, .int a1, .int a2], [], sM Ln I L c s)) (B := (41, [.ref 148, .int a1, .int a2], [], sM Ln I L c s)) rfl (fun hc => ?_) (fun hc => ?_) (by omega)
  · have h := h.1 hc
    obtain ⟨hc, h⟩ := h
    exact dd_Rn.retB 1 (cf' := (90, [.ref 148, .int a1, .int a2], [.int a1], sM Ln I L c s)) (v := a1) rfl rfl hc h (by omega)
  · have h := h.2 hc
    refine dd_Rn.ite 1 (c := a1 = 0) (A := (89, [.ref 148, .int a1, .int a2], [], sM Ln I L c s)) (B := (45, [.ref 148, .int a1, .int a2], [], sM Ln I L c s)) rfl (fun hc => ?_) (fun hc => ?_) (by omega)
    · have h := h.1 hc
      obtain ⟨hc, h⟩ := h
      exact dd_Rn.retB 1 (cf' := (90, [.ref 148, .int a1, .int a2], [.int a1], sM Ln I L c s)) (v := a1) rfl rfl hc h (by omega)
    · have h := h.2 hc
      obtain ⟨hc, h⟩ := h
      refine dd_Rn.chk 3 (c := 0 ≤ a2 ∧ tn a2 < 400) (A := (51, [.ref 148, .int a1, .int a2], [.int (I 154 (tn a2))], sM Ln I L c s)) rfl hc ?_ (by omega)
      refine dd_Rn.sub 2 (pc := 54) (ls := [.ref 148, .int a1, .int a2]) (st := [.int 30, .int 0, .int (I 154 (tn a2))]) (M := sM Ln I L c s) (x := m_X11_in) (as := [.int (I 154 (tn a2)), .int 0, .int 30]) (rest := []) rfl rfl rfl rfl ?_
      show dd_Rn (e + 15) m_X11_in (0, [.int (I 154 (tn a2)), .int 0, .int 30], [], sM Ln I L c s) _
      refine dd_Rn.ite 2 (c := I 154 (tn a2) < 0) (A := (14, [.int (I 154 (tn a2)), .int 0, .int 30], [], sM Ln I L c s)) (B := (5, [.int (I 154 (tn a2)), .int 0, .int 30], [], sM Ln I L c s)) rfl (fun hc => ?_) (fun hc => ?_) (by omega)
      · have h := h.1 hc
        refine dd_Rn.retK 1 (pc := 15) (ls := [.int (I 154 (tn a2)), .int 0, .int 30]) (st := [.int 0]) (M := sM Ln I L c s) (o := (none, .int 0, sM Ln I L c s)) rfl rfl (dd_Af.ret rfl ?_) (by omega)
        show dd_Rn (e + 16) m_X11_isSounding (57, [.ref 148, .int a1, .int a2], [.int 0], sM Ln I L c s) _
        exact dd_Rn.go 5 (cf' := (33, [.ref 148, .int 0, .int (a2 + 2)], [], sM Ln I L c s)) rfl h (by omega)
      · have h := h.2 hc
        refine dd_Rn.ite 2 (c := (30 : Int32) < I 154 (tn a2)) (A := (14, [.int (I 154 (tn a2)), .int 0, .int 30], [], sM Ln I L c s)) (B := (10, [.int (I 154 (tn a2)), .int 0, .int 30], [], sM Ln I L c s)) rfl (fun hc => ?_) (fun hc => ?_) (by omega)
        · have h := h.1 hc
          refine dd_Rn.retK 1 (pc := 15) (ls := [.int (I 154 (tn a2)), .int 0, .int 30]) (st := [.int 0]) (M := sM Ln I L c s) (o := (none, .int 0, sM Ln I L c s)) rfl rfl (dd_Af.ret rfl ?_) (by omega)
          show dd_Rn (e + 16) m_X11_isSounding (57, [.ref 148, .int a1, .int a2], [.int 0], sM Ln I L c s) _
          exact dd_Rn.go 5 (cf' := (33, [.ref 148, .int 0, .int (a2 + 2)], [], sM Ln I L c s)) rfl h (by omega)
        · have h := h.2 hc
          refine dd_Rn.retK 2 (pc := 15) (ls := [.int (I 154 (tn a2)), .int 0, .int 30]) (st := [.int 1]) (M := sM Ln I L c s) (o := (none, .int 1, sM Ln I L c s)) rfl rfl (dd_Af.ret rfl ?_) (by omega)
          show dd_Rn (e + 16) m_X11_isSounding (57, [.ref 148, .int a1, .int a2], [.int 1], sM Ln I L c s) _
          obtain ⟨hc, h⟩ := h
          refine dd_Rn.go 6 (cf' := (67, [.ref 148, .int a1, .int a2], [.int (a2 + 1), .ref 154], sM Ln I L c s)) rfl ?_ (by omega)
          refine dd_Rn.ci (fun j0 => (67, [.ref 148, .int a1, .int a2], [.int j0, .ref 154], sM Ln I L c s)) (fun j0 => (68, [.ref 148, .int a1, .int a2], [.int (I 154 (tn j0))], sM Ln I L c s)) (fun j0 => 0 ≤ j0 ∧ tn j0 < 400) (a2 + 1) (fun j0 hc h => dd_Rn.chk 0 (c := 0 ≤ j0 ∧ tn j0 < 400) (A := (68, [.ref 148, .int a1, .int a2], [.int (I 154 (tn j0))], sM Ln I L c s)) rfl hc h (by omega)) hc ?_
          refine dd_Rn.se (cf := (68, [.ref 148, .int a1, .int a2], [.int (I 154 (tn (a2 + 1)))], sM Ln I L c s)) ?_
          refine dd_Rn.sub 2 (pc := 71) (ls := [.ref 148, .int a1, .int a2]) (st := [.int 14, .int 0, .int (I 154 (tn (a2 + 1)))]) (M := sM Ln I L c s) (x := m_X11_in) (as := [.int (I 154 (tn (a2 + 1))), .int 0, .int 14]) (rest := []) rfl rfl rfl rfl ?_
          show dd_Rn (e + 15) m_X11_in (0, [.int (I 154 (tn (a2 + 1))), .int 0, .int 14], [], sM Ln I L c s) _
          refine dd_Rn.ite 2 (c := I 154 (tn (a2 + 1)) < 0) (A := (14, [.int (I 154 (tn (a2 + 1))), .int 0, .int 14], [], sM Ln I L c s)) (B := (5, [.int (I 154 (tn (a2 + 1))), .int 0, .int 14], [], sM Ln I L c s)) rfl (fun hc => ?_) (fun hc => ?_) (by omega)
          · have h := h.1 hc
            refine dd_Rn.retK 1 (pc := 15) (ls := [.int (I 154 (tn (a2 + 1))), .int 0, .int 14]) (st := [.int 0]) (M := sM Ln I L c s) (o := (none, .int 0, sM Ln I L c s)) rfl rfl (dd_Af.ret rfl ?_) (by omega)
            show dd_Rn (e + 16) m_X11_isSounding (74, [.ref 148, .int a1, .int a2], [.int 0], sM Ln I L c s) _
            exact dd_Rn.go 5 (cf' := (33, [.ref 148, .int 0, .int (a2 + 2)], [], sM Ln I L c s)) rfl h (by omega)
          · have h := h.2 hc
            refine dd_Rn.ite 2 (c := (14 : Int32) < I 154 (tn (a2 + 1))) (A := (14, [.int (I 154 (tn (a2 + 1))), .int 0, .int 14], [], sM Ln I L c s)) (B := (10, [.int (I 154 (tn (a2 + 1))), .int 0, .int 14], [], sM Ln I L c s)) rfl (fun hc => ?_) (fun hc => ?_) (by omega)
            · have h := h.1 hc
              refine dd_Rn.retK 1 (pc := 15) (ls := [.int (I 154 (tn (a2 + 1))), .int 0, .int 14]) (st := [.int 0]) (M := sM Ln I L c s) (o := (none, .int 0, sM Ln I L c s)) rfl rfl (dd_Af.ret rfl ?_) (by omega)
              show dd_Rn (e + 16) m_X11_isSounding (74, [.ref 148, .int a1, .int a2], [.int 0], sM Ln I L c s) _
              exact dd_Rn.go 5 (cf' := (33, [.ref 148, .int 0, .int (a2 + 2)], [], sM Ln I L c s)) rfl h (by omega)
            · have h := h.2 hc
              refine dd_Rn.retK 2 (pc := 15) (ls := [.int (I 154 (tn (a2 + 1))), .int 0, .int 14]) (st := [.int 1]) (M := sM Ln I L c s) (o := (none, .int 1, sM Ln I L c s)) rfl rfl (dd_Af.ret rfl ?_) (by omega)
              show dd_Rn (e + 16) m_X11_isSounding (74, [.ref 148, .int a1, .int a2], [.int 1], sM Ln I L c s) _
              exact dd_Rn.go 6 (cf' := (33, [.ref 148, .int 1, .int (a2 + 2)], [], sM Ln I L c s)) rfl h (by omega)

theorem w_X11_fits_0 {Ln d c s : Nat} {I : Nat → Nat → Int32} {L : Nat → Nat → Int64} {Q : dd_O → Prop} {a1 : Int32} (hd : 28 ≤ d) (h : ((0 ≤ (11 : Int32) + a1 ∧ tn ((11 : Int32) + a1) < 2220) ∧ ((I 149 (tn ((11 : Int32) + a1)) = 1 → dd_Rn d m_X11_fits (16, [.ref 148, .int a1, .int 0, .int 0], [], sM Ln I L c s) Q) ∧ (¬ (I 149 (tn ((11 : Int32) + a1)) = 1) → dd_Rn d m_X11_fits (16, [.ref 148, .int a1, .int 1, .int 0], [], sM Ln I L c s) Q)))) : dd_Ev d m_X11_fits [.ref 148, .int a1] (sM Ln I L c s) Q := by
  obtain ⟨e, rfl⟩ : ∃ e, d = e + 16 := ⟨d - 16, by omega⟩
  show dd_Rn (e + 16) m_X11_fits (0, [.ref 148, .int a1, .null, .null], [], sM Ln I L c s) Q
  refine dd_Rn.sub 2 (pc := 2) (ls := [.ref 148, .int a1, .null, .null]) (st := [.int a1, .ref 148]) (M := sM Ln I L c s) (x := m_X11_hasTrees) (as := [.ref 148, .int a1]) (rest := []) rfl rfl rfl rfl ?_
  show dd_Rn (e + 15) m_X11_hasTrees (0, [.ref 148, .int a1], [], sM Ln I L c s) _
  obtain ⟨hc, h⟩ := h
  refine dd_Rn.go 5 (cf' := (8, [.ref 148, .int a1], [.int ((11 : Int32) + a1), .ref 149], sM Ln I L c s)) rfl ?_ (by omega)
  refine dd_Rn.ci (fun j0 => (8, [.ref 148, .int a1], [.int j0, .ref 149], sM Ln I L c s)) (fun j0 => (9, [.ref 148, .int a1], [.int (I 149 (tn j0))], sM Ln I L c s)) (fun j0 => 0 ≤ j0 ∧ tn j0 < 2220) ((11 : Int32) + a1) (fun j0 hc h => dd_Rn.chk 0 (c := 0 ≤ j0 ∧ tn j0 < 2220) (A := (9, [.ref 148, .int a1], [.int (I 149 (tn j0))], sM Ln I L c s)) rfl hc h (by omega)) hc ?_
  refine dd_Rn.se (cf := (9, [.ref 148, .int a1], [.int (I 149 (tn ((11 : Int32) + a1)))], sM Ln I L c s)) ?_
  refine dd_Rn.ite 1 (c := I 149 (tn ((11 : Int32) + a1)) = 1) (A := (13, [.ref 148, .int a1], [], sM Ln I L c s)) (B := (17, [.ref 148, .int a1], [], sM Ln I L c s)) rfl (fun hc => ?_) (fun hc => ?_) (by omega)
  · have h := h.1 hc
    refine dd_Rn.retK 2 (pc := 18) (ls := [.ref 148, .int a1]) (st := [.int 1]) (M := sM Ln I L c s) (o := (none, .int 1, sM Ln I L c s)) rfl rfl (dd_Af.ret rfl ?_) (by omega)
    show dd_Rn (e + 16) m_X11_fits (5, [.ref 148, .int a1, .null, .null], [.int 1], sM Ln I L c s) _
    exact dd_Rn.go 5 (cf' := (16, [.ref 148, .int a1, .int 0, .int 0], [], sM Ln I L c s)) rfl h (by omega)
  · have h := h.2 hc
    refine dd_Rn.retK 1 (pc := 18) (ls := [.ref 148, .int a1]) (st := [.int 0]) (M := sM Ln I L c s) (o := (none, .int 0, sM Ln I L c s)) rfl rfl (dd_Af.ret rfl ?_) (by omega)
    show dd_Rn (e + 16) m_X11_fits (5, [.ref 148, .int a1, .null, .null], [.int 0], sM Ln I L c s) _
    exact dd_Rn.go 6 (cf' := (16, [.ref 148, .int a1, .int 1, .int 0], [], sM Ln I L c s)) rfl h (by omega)

theorem w_X11_fits_16 {Ln d c s : Nat} {I : Nat → Nat → Int32} {L : Nat → Nat → Int64} {Q : dd_O → Prop} {a1 a2 a3 : Int32} (hd : 28 ≤ d) (h : ((I 148 11 ≤ a3 → ((a2 = 0 ∨ a2 = 1) ∧ Q (none, .int a2, sM Ln I L c s))) ∧ (¬ (I 148 11 ≤ a3) → ((a2 = 0 → dd_Rn d m_X11_fits (16, [.ref 148, .int a1, .int 0, .int (a3 + 2)], [], sM Ln I L c s) Q) ∧ (¬ (a2 = 0) → ((0 ≤ a3 ∧ tn a3 < 400) ∧ ((0 ≤ ((31 : Int32) * a1) + (I 154 (tn a3)) ∧ tn (((31 : Int32) * a1) + (I 154 (tn a3))) < 1984) ∧ ((0 ≤ a3 + 1 ∧ tn (a3 + 1) < 400) ∧ ((I 161 (tn (((31 : Int32) * a1) + (I 154 (tn a3)))) = I 154 (tn (a3 + 1)) → dd_Rn d m_X11_fits (16, [.ref 148, .int a1, .int 1, .int (a3 + 2)], [], sM Ln I L c s) Q) ∧ (¬ (I 161 (tn (((31 : Int32) * a1) + (I 154 (tn a3)))) = I 154 (tn (a3 + 1))) → dd_Rn d m_X11_fits (16, [.ref 148, .int a1, .int 0, .int (a3 + 2)], [], sM Ln I L c s) Q)))))))))) : dd_Rn d m_X11_fits (16, [.ref 148, .int a1, .int a2, .int a3], [], sM Ln I L c s) Q := by
  obtain ⟨e, rfl⟩ : ∃ e, d = e + 16 := ⟨d - 16, by omega⟩
  refine dd_Rn.ite 3 (c := I 148 11 ≤ a3) (A := (67, [.ref 148, .int a1, .int a2, .int a3], [], sM Ln I L c s)) (B := (24, [.ref 148, .int a1, .int a2, .int a3], [], sM Ln I L c s)) rfl (fun hc => ?_) (fun hc => ?_) (by omega)
  · have h := h.1 hc
    obtain ⟨hc, h⟩ := h
    exact dd_Rn.retB 1 (cf' := (68, [.ref 148, .int a1, .int a2, .int a3], [.int a2], sM Ln I L c s)) (v := a2) rfl rfl hc h (by omega)
  · have h := h.2 hc
    refine dd_Rn.ite 1 (c := a2 = 0) (A := (59, [.ref 148, .int a1, .int a2, .int a3], [], sM Ln I L c s)) (B := (28, [.ref 148, .int a1, .int a2, .int a3], [], sM Ln I L c s)) rfl (fun hc => ?_) (fun hc => ?_) (by omega)
    · have h := h.1 hc
      exact dd_Rn.go 4 (cf' := (16, [.ref 148, .int a1, .int 0, .int (a3 + 2)], [], sM Ln I L c s)) rfl h (by omega)
    · have h := h.2 hc
      obtain ⟨hc, h⟩ := h
      refine dd_Rn.chk 8 (c := 0 ≤ a3 ∧ tn a3 < 400) (A := (42, [.ref 148, .int a1, .int a2, .int a3], [.int (I 154 (tn a3)), .int ((31 : Int32) * a1), .ref 161], sM Ln I L c s)) rfl hc ?_ (by omega)
      obtain ⟨hc, h⟩ := h
      refine dd_Rn.go 1 (cf' := (43, [.ref 148, .int a1, .int a2, .int a3], [.int (((31 : Int32) * a1) + (I 154 (tn a3))), .ref 161], sM Ln I L c s)) rfl ?_ (by omega)
      refine dd_Rn.ci (fun j0 => (43, [.ref 148, .int a1, .int a2, .int a3], [.int j0, .ref 161], sM Ln I L c s)) (fun j0 => (44, [.ref 148, .int a1, .int a2, .int a3], [.int (I 161 (tn j0))], sM Ln I L c s)) (fun j0 => 0 ≤ j0 ∧ tn j0 < 1984) (((31 : Int32) * a1) + (I 154 (tn a3))) (fun j0 hc h => dd_Rn.chk 0 (c := 0 ≤ j0 ∧ tn j0 < 1984) (A := (44, [.ref 148, .int a1, .int a2, .int a3], [.int (I 161 (tn j0))], sM Ln I L c s)) rfl hc h (by omega)) hc ?_
      refine dd_Rn.se (cf := (44, [.ref 148, .int a1, .int a2, .int a3], [.int (I 161 (tn (((31 : Int32) * a1) + (I 154 (tn a3)))))], sM Ln I L c s)) ?_
      obtain ⟨hc, h⟩ := h
      refine dd_Rn.go 5 (cf' := (51, [.ref 148, .int a1, .int a2, .int a3], [.int (a3 + 1), .ref 154, .int (I 161 (tn (((31 : Int32) * a1) + (I 154 (tn a3)))))], sM Ln I L c s)) rfl ?_ (by omega)
      refine dd_Rn.ci (fun j0 => (51, [.ref 148, .int a1, .int a2, .int a3], [.int j0, .ref 154, .int (I 161 (tn (((31 : Int32) * a1) + (I 154 (tn a3)))))], sM Ln I L c s)) (fun j0 => (52, [.ref 148, .int a1, .int a2, .int a3], [.int (I 154 (tn j0)), .int (I 161 (tn (((31 : Int32) * a1) + (I 154 (tn a3)))))], sM Ln I L c s)) (fun j0 => 0 ≤ j0 ∧ tn j0 < 400) (a3 + 1) (fun j0 hc h => dd_Rn.chk 0 (c := 0 ≤ j0 ∧ tn j0 < 400) (A := (52, [.ref 148, .int a1, .int a2, .int a3], [.int (I 154 (tn j0)), .int (I 161 (tn (((31 : Int32) * a1) + (I 154 (tn a3)))))], sM Ln I L c s)) rfl hc h (by omega)) hc ?_
      refine dd_Rn.se (cf := (52, [.ref 148, .int a1, .int a2, .int a3], [.int (I 154 (tn (a3 + 1))), .int (I 161 (tn (((31 : Int32) * a1) + (I 154 (tn a3)))))], sM Ln I L c s)) ?_
      refine dd_Rn.ite 0 (c := I 161 (tn (((31 : Int32) * a1) + (I 154 (tn a3)))) = I 154 (tn (a3 + 1))) (A := (55, [.ref 148, .int a1, .int a2, .int a3], [], sM Ln I L c s)) (B := (59, [.ref 148, .int a1, .int a2, .int a3], [], sM Ln I L c s)) rfl (fun hc => ?_) (fun hc => ?_) (by omega)
      · have h := h.1 hc
        exact dd_Rn.go 5 (cf' := (16, [.ref 148, .int a1, .int 1, .int (a3 + 2)], [], sM Ln I L c s)) rfl h (by omega)
      · have h := h.2 hc
        exact dd_Rn.go 4 (cf' := (16, [.ref 148, .int a1, .int 0, .int (a3 + 2)], [], sM Ln I L c s)) rfl h (by omega)

theorem w_X11_sounds_0 {Ln d c s : Nat} {I : Nat → Nat → Int32} {L : Nat → Nat → Int64} {Q : dd_O → Prop} {a1 : Int32} (hd : 28 ≤ d) (h : dd_Ev (d - 1) m_X11_isSounding [.ref 148] (sM Ln (dd_u (dd_u (dd_u (dd_u I 148 (upd (I 148) 0 0)) 148 (upd (upd (I 148) 0 0) 11 (I 148 9))) 148 (upd (upd (upd (I 148) 0 0) 11 (I 148 9)) 9 0)) 148 (upd (upd (upd (upd (I 148) 0 0) 11 (I 148 9)) 9 0) 10 0)) L c s) (dd_RI Ln c s (fun x1 I1 L1 => ((x1 = 0 → Q (none, .int 0, sM Ln (dd_u I1 148 (upd (I1 148) 0 1)) L1 c s)) ∧ (¬ (x1 = 0) → dd_Ev (d - 1) m_X11_laysNears [.ref 148] (sM Ln I1 L1 c s) (dd_RV Ln c s (fun I2 L2 => dd_Rn d m_X11_sounds (38, [.ref 148, .int a1, .int 0, .int (-1), .int 63], [], sM Ln I2 L2 c s) Q))))))) : dd_Ev d m_X11_sounds [.ref 148, .int a1] (sM Ln I L c s) Q := by
  obtain ⟨e, rfl⟩ : ∃ e, d = e + 16 := ⟨d - 16, by omega⟩
  show dd_Rn (e + 16) m_X11_sounds (0, [.ref 148, .int a1, .null, .null, .null], [], sM Ln I L c s) Q
  refine dd_Rn.sub 1 (pc := 1) (ls := [.ref 148, .int a1, .null, .null, .null]) (st := [.ref 148]) (M := sM Ln I L c s) (x := m_X11_uses) (as := [.ref 148]) (rest := []) rfl rfl rfl rfl ?_
  show dd_Rn (e + 15) m_X11_uses (0, [.ref 148], [], sM Ln I L c s) _
  refine dd_Rn.retK 13 (pc := 23) (ls := [.ref 148]) (st := []) (M := sM Ln (dd_u (dd_u (dd_u (dd_u I 148 (upd (I 148) 0 0)) 148 (upd (upd (I 148) 0 0) 11 (I 148 9))) 148 (upd (upd (upd (I 148) 0 0) 11 (I 148 9)) 9 0)) 148 (upd (upd (upd (upd (I 148) 0 0) 11 (I 148 9)) 9 0) 10 0)) L c s) (o := (none, .null, sM Ln (dd_u (dd_u (dd_u (dd_u I 148 (upd (I 148) 0 0)) 148 (upd (upd (I 148) 0 0) 11 (I 148 9))) 148 (upd (upd (upd (I 148) 0 0) 11 (I 148 9)) 9 0)) 148 (upd (upd (upd (upd (I 148) 0 0) 11 (I 148 9)) 9 0) 10 0)) L c s)) rfl rfl (dd_Af.ret rfl ?_) (by omega)
  show dd_Rn (e + 16) m_X11_sounds (4, [.ref 148, .int a1, .null, .null, .null], [], sM Ln (dd_u (dd_u (dd_u (dd_u I 148 (upd (I 148) 0 0)) 148 (upd (upd (I 148) 0 0) 11 (I 148 9))) 148 (upd (upd (upd (I 148) 0 0) 11 (I 148 9)) 9 0)) 148 (upd (upd (upd (upd (I 148) 0 0) 11 (I 148 9)) 9 0) 10 0)) L c s) _
  refine dd_Rn.cI 2 (pc := 6) (ls := [.ref 148, .int a1, .null, .null, .null]) (st := [.ref 148, .ref 148]) (x := m_X11_isSounding) (as := [.ref 148]) (rest := [.ref 148]) rfl rfl rfl rfl h ?_
  intro x1 I1 L1 h
  show dd_Rn (e + 16) m_X11_sounds (9, [.ref 148, .int a1, .null, .null, .null], [.int x1, .ref 148], sM Ln I1 L1 c s) _
  refine dd_Rn.ite 0 (c := x1 = 0) (A := (12, [.ref 148, .int a1, .null, .null, .null], [.ref 148], sM Ln I1 L1 c s)) (B := (16, [.ref 148, .int a1, .null, .null, .null], [.ref 148], sM Ln I1 L1 c s)) rfl (fun hc => ?_) (fun hc => ?_) (by omega)
  · have h := h.1 hc
    refine dd_Rn.sub 3 (pc := 18) (ls := [.ref 148, .int a1, .null, .null, .null]) (st := [.int 1, .int 1, .ref 148]) (M := sM Ln I1 L1 c s) (x := m_X11_throwsIf) (as := [.ref 148, .int 1, .int 1]) (rest := []) rfl rfl rfl rfl ?_
    show dd_Rn (e + 15) m_X11_throwsIf (0, [.ref 148, .int 1, .int 1], [], sM Ln I1 L1 c s) _
    refine dd_Rn.retK 6 (pc := 10) (ls := [.ref 148, .int 1, .int 1]) (st := [.int 1]) (M := sM Ln (dd_u I1 148 (upd (I1 148) 0 1)) L1 c s) (o := (none, .int 1, sM Ln (dd_u I1 148 (upd (I1 148) 0 1)) L1 c s)) rfl rfl (dd_Af.ret rfl ?_) (by omega)
    show dd_Rn (e + 16) m_X11_sounds (21, [.ref 148, .int a1, .null, .null, .null], [.int 1], sM Ln (dd_u I1 148 (upd (I1 148) 0 1)) L1 c s) _
    exact dd_Rn.retK 2 (pc := 25) (ls := [.ref 148, .int a1, .null, .null, .null]) (st := [.int 0]) (M := sM Ln (dd_u I1 148 (upd (I1 148) 0 1)) L1 c s) (o := (none, .int 0, sM Ln (dd_u I1 148 (upd (I1 148) 0 1)) L1 c s)) rfl rfl h (by omega)
  · have h := h.2 hc
    refine dd_Rn.sub 2 (pc := 18) (ls := [.ref 148, .int a1, .null, .null, .null]) (st := [.int 1, .int 0, .ref 148]) (M := sM Ln I1 L1 c s) (x := m_X11_throwsIf) (as := [.ref 148, .int 0, .int 1]) (rest := []) rfl rfl rfl rfl ?_
    show dd_Rn (e + 15) m_X11_throwsIf (0, [.ref 148, .int 0, .int 1], [], sM Ln I1 L1 c s) _
    refine dd_Rn.retK 3 (pc := 10) (ls := [.ref 148, .int 0, .int 1]) (st := [.int 0]) (M := sM Ln I1 L1 c s) (o := (none, .int 0, sM Ln I1 L1 c s)) rfl rfl (dd_Af.ret rfl ?_) (by omega)
    show dd_Rn (e + 16) m_X11_sounds (21, [.ref 148, .int a1, .null, .null, .null], [.int 0], sM Ln I1 L1 c s) _
    refine dd_Rn.cV 2 (pc := 27) (ls := [.ref 148, .int a1, .null, .null, .null]) (st := [.ref 148]) (x := m_X11_laysNears) (as := [.ref 148]) (rest := []) rfl rfl rfl rfl h ?_
    intro I2 L2 h
    show dd_Rn (e + 16) m_X11_sounds (30, [.ref 148, .int a1, .null, .null, .null], [], sM Ln I2 L2 c s) _
    exact dd_Rn.go 6 (cf' := (38, [.ref 148, .int a1, .int 0, .int (-1), .int 63], [], sM Ln I2 L2 c s)) rfl h (by omega)

theorem w_X11_sounds_38 {Ln d c s : Nat} {I : Nat → Nat → Int32} {L : Nat → Nat → Int64} {Q : dd_O → Prop} {a1 a2 a3 a4 : Int32} (hd : 28 ≤ d) (h : ((a4 < 0 → ((a1 = 0 → Q (none, .int a2, sM Ln I L c s)) ∧ (¬ (a1 = 0) → Q (none, .int a3, sM Ln I L c s)))) ∧ (¬ (a4 < 0) → dd_Ev (d - 1) m_X11_fits [.ref 148, .int a4] (sM Ln I L c s) (dd_RI Ln c s (fun x1 I1 L1 => ((x1 = 0 → dd_Rn d m_X11_sounds (38, [.ref 148, .int a1, .int a2, .int a3, .int (a4 + (-1))], [], sM Ln I1 L1 c s) Q) ∧ (¬ (x1 = 0) → dd_Rn d m_X11_sounds (38, [.ref 148, .int a1, .int (a2 + 1), .int a4, .int (a4 + (-1))], [], sM Ln I1 L1 c s) Q))))))) : dd_Rn d m_X11_sounds (38, [.ref 148, .int a1, .int a2, .int a3, .int a4], [], sM Ln I L c s) Q := by
  obtain ⟨e, rfl⟩ : ∃ e, d = e + 16 := ⟨d - 16, by omega⟩
  refine dd_Rn.ite 1 (c := a4 < 0) (A := (67, [.ref 148, .int a1, .int a2, .int a3, .int a4], [], sM Ln I L c s)) (B := (43, [.ref 148, .int a1, .int a2, .int a3, .int a4], [], sM Ln I L c s)) rfl (fun hc => ?_) (fun hc => ?_) (by omega)
  · have h := h.1 hc
    refine dd_Rn.ite 1 (c := a1 = 0) (A := (75, [.ref 148, .int a1, .int a2, .int a3, .int a4], [], sM Ln I L c s)) (B := (71, [.ref 148, .int a1, .int a2, .int a3, .int a4], [], sM Ln I L c s)) rfl (fun hc => ?_) (fun hc => ?_) (by omega)
    · have h := h.1 hc
      exact dd_Rn.retK 1 (pc := 76) (ls := [.ref 148, .int a1, .int a2, .int a3, .int a4]) (st := [.int a2]) (M := sM Ln I L c s) (o := (none, .int a2, sM Ln I L c s)) rfl rfl h (by omega)
    · have h := h.2 hc
      exact dd_Rn.retK 2 (pc := 76) (ls := [.ref 148, .int a1, .int a2, .int a3, .int a4]) (st := [.int a3]) (M := sM Ln I L c s) (o := (none, .int a3, sM Ln I L c s)) rfl rfl h (by omega)
  · have h := h.2 hc
    refine dd_Rn.cI 2 (pc := 46) (ls := [.ref 148, .int a1, .int a2, .int a3, .int a4]) (st := [.int a4, .ref 148]) (x := m_X11_fits) (as := [.ref 148, .int a4]) (rest := []) rfl rfl rfl rfl h ?_
    intro x1 I1 L1 h
    show dd_Rn (e + 16) m_X11_sounds (49, [.ref 148, .int a1, .int a2, .int a3, .int a4], [.int x1], sM Ln I1 L1 c s) _
    refine dd_Rn.ite 0 (c := x1 = 0) (A := (52, [.ref 148, .int a1, .int a2, .int a3, .int a4], [], sM Ln I1 L1 c s)) (B := (55, [.ref 148, .int a1, .int a2, .int a3, .int a4], [], sM Ln I1 L1 c s)) rfl (fun hc => ?_) (fun hc => ?_) (by omega)
    · have h := h.1 hc
      exact dd_Rn.go 3 (cf' := (38, [.ref 148, .int a1, .int a2, .int a3, .int (a4 + (-1))], [], sM Ln I1 L1 c s)) rfl h (by omega)
    · have h := h.2 hc
      exact dd_Rn.go 5 (cf' := (38, [.ref 148, .int a1, .int (a2 + 1), .int a4, .int (a4 + (-1))], [], sM Ln I1 L1 c s)) rfl h (by omega)

theorem w_X11_partBy_0 {Ln d c s : Nat} {I : Nat → Nat → Int32} {L : Nat → Nat → Int64} {Q : dd_O → Prop} {a1 : Int32} (hd : 28 ≤ d) (h : dd_Rn d m_X11_partBy (4, [.ref 148, .int a1, .int 0, .int 0, .null], [], sM Ln I L c s) Q) : dd_Ev d m_X11_partBy [.ref 148, .int a1] (sM Ln I L c s) Q := by
  obtain ⟨e, rfl⟩ : ∃ e, d = e + 16 := ⟨d - 16, by omega⟩
  show dd_Rn (e + 16) m_X11_partBy (0, [.ref 148, .int a1, .null, .null, .null], [], sM Ln I L c s) Q
  exact dd_Rn.go 4 (cf' := (4, [.ref 148, .int a1, .int 0, .int 0, .null], [], sM Ln I L c s)) rfl h (by omega)

theorem w_X11_partBy_4 {Ln d c s : Nat} {I : Nat → Nat → Int32} {L : Nat → Nat → Int64} {Q : dd_O → Prop} {a1 a2 a3 : Int32} (hd : 28 ≤ d) (h : (((14 : Int32) < a3 → dd_Rn d m_X11_partBy (25, [.ref 148, .int a1, .int a2, .int 0, .null], [], sM Ln I L c s) Q) ∧ (¬ ((14 : Int32) < a3) → ((0 ≤ a3 ∧ tn a3 < 15) ∧ dd_Rn d m_X11_partBy (4, [.ref 148, .int a1, .int a2, .int (a3 + 1), .null], [], sM Ln (dd_u I 162 (upd (I 162) (tn a3) 0)) L c s) Q)))) : dd_Rn d m_X11_partBy (4, [.ref 148, .int a1, .int a2, .int a3, .null], [], sM Ln I L c s) Q := by
  obtain ⟨e, rfl⟩ : ∃ e, d = e + 16 := ⟨d - 16, by omega⟩
  refine dd_Rn.ite 2 (c := (14 : Int32) < a3) (A := (23, [.ref 148, .int a1, .int a2, .int a3, .null], [], sM Ln I L c s)) (B := (10, [.ref 148, .int a1, .int a2, .int a3, .null], [], sM Ln I L c s)) rfl (fun hc => ?_) (fun hc => ?_) (by omega)
  · have h := h.1 hc
    exact dd_Rn.go 2 (cf' := (25, [.ref 148, .int a1, .int a2, .int 0, .null], [], sM Ln I L c s)) rfl h (by omega)
  · have h := h.2 hc
    obtain ⟨hc, h⟩ := h
    refine dd_Rn.chk 4 (c := 0 ≤ a3 ∧ tn a3 < 15) (A := (17, [.ref 148, .int a1, .int a2, .int a3, .null], [], sM Ln (dd_u I 162 (upd (I 162) (tn a3) 0)) L c s)) rfl hc ?_ (by omega)
    exact dd_Rn.go 2 (cf' := (4, [.ref 148, .int a1, .int a2, .int (a3 + 1), .null], [], sM Ln (dd_u I 162 (upd (I 162) (tn a3) 0)) L c s)) rfl h (by omega)

theorem w_X11_partBy_25 {Ln d c s : Nat} {I : Nat → Nat → Int32} {L : Nat → Nat → Int64} {Q : dd_O → Prop} {a1 a2 a3 : Int32} {a4 : Value} (hd : 28 ≤ d) (h : (((64 : Int32) ≤ a3 → Q (none, .int a2, sM Ln I L c s)) ∧ (¬ ((64 : Int32) ≤ a3) → dd_Ev (d - 1) m_X11_fits [.ref 148, .int a3] (sM Ln I L c s) (dd_RI Ln c s (fun x1 I1 L1 => ((x1 = 0 → dd_Rn d m_X11_partBy (25, [.ref 148, .int a1, .int a2, .int (a3 + 1), a4], [], sM Ln I1 L1 c s) Q) ∧ (¬ (x1 = 0) → ((0 ≤ ((31 : Int32) * a3) + a1 ∧ tn (((31 : Int32) * a3) + a1) < 1984) ∧ ((0 ≤ I1 161 (tn (((31 : Int32) * a3) + a1)) ∧ tn (I1 161 (tn (((31 : Int32) * a3) + a1))) < 15) ∧ ((0 ≤ I1 161 (tn (((31 : Int32) * a3) + a1)) ∧ tn (I1 161 (tn (((31 : Int32) * a3) + a1))) < 15) ∧ ((0 ≤ I1 161 (tn (((31 : Int32) * a3) + a1)) ∧ tn (I1 161 (tn (((31 : Int32) * a3) + a1))) < 15) ∧ dd_Rn d m_X11_partBy (25, [.ref 148, .int a1, .int (if a2 < (upd (I1 162) (tn (I1 161 (tn (((31 : Int32) * a3) + a1)))) ((I1 162 (tn (I1 161 (tn (((31 : Int32) * a3) + a1))))) + 1)) (tn (I1 161 (tn (((31 : Int32) * a3) + a1)))) then (upd (I1 162) (tn (I1 161 (tn (((31 : Int32) * a3) + a1)))) ((I1 162 (tn (I1 161 (tn (((31 : Int32) * a3) + a1))))) + 1)) (tn (I1 161 (tn (((31 : Int32) * a3) + a1)))) else a2), .int (a3 + 1), .int (I1 161 (tn (((31 : Int32) * a3) + a1)))], [], sM Ln (dd_u I1 162 (upd (I1 162) (tn (I1 161 (tn (((31 : Int32) * a3) + a1)))) ((I1 162 (tn (I1 161 (tn (((31 : Int32) * a3) + a1))))) + 1))) L1 c s) Q))))))))))) : dd_Rn d m_X11_partBy (25, [.ref 148, .int a1, .int a2, .int a3, a4], [], sM Ln I L c s) Q := by
  obtain ⟨e, rfl⟩ : ∃ e, d = e + 16 := ⟨d - 16, by omega⟩
  refine dd_Rn.ite 2 (c := (64 : Int32) ≤ a3) (A := (84, [.ref 148, .int a1, .int a2, .int a3, a4], [], sM Ln I L c s)) (B := (31, [.ref 148, .int a1, .int a2, .int a3, a4], [], sM Ln I L c s)) rfl (fun hc => ?_) (fun hc => ?_) (by omega)
  · have h := h.1 hc
    exact dd_Rn.retK 1 (pc := 85) (ls := [.ref 148, .int a1, .int a2, .int a3, a4]) (st := [.int a2]) (M := sM Ln I L c s) (o := (none, .int a2, sM Ln I L c s)) rfl rfl h (by omega)
  · have h := h.2 hc
    refine dd_Rn.cI 2 (pc := 33) (ls := [.ref 148, .int a1, .int a2, .int a3, a4]) (st := [.int a3, .ref 148]) (x := m_X11_fits) (as := [.ref 148, .int a3]) (rest := []) rfl rfl rfl rfl h ?_
    intro x1 I1 L1 h
    show dd_Rn (e + 16) m_X11_partBy (36, [.ref 148, .int a1, .int a2, .int a3, a4], [.int x1], sM Ln I1 L1 c s) _
    refine dd_Rn.ite 0 (c := x1 = 0) (A := (39, [.ref 148, .int a1, .int a2, .int a3, a4], [], sM Ln I1 L1 c s)) (B := (42, [.ref 148, .int a1, .int a2, .int a3, a4], [], sM Ln I1 L1 c s)) rfl (fun hc => ?_) (fun hc => ?_) (by omega)
    · have h := h.1 hc
      exact dd_Rn.go 3 (cf' := (25, [.ref 148, .int a1, .int a2, .int (a3 + 1), a4], [], sM Ln I1 L1 c s)) rfl h (by omega)
    · have h := h.2 hc
      obtain ⟨hc, h⟩ := h
      refine dd_Rn.go 7 (cf' := (52, [.ref 148, .int a1, .int a2, .int a3, a4], [.int (((31 : Int32) * a3) + a1), .ref 161], sM Ln I1 L1 c s)) rfl ?_ (by omega)
      refine dd_Rn.ci (fun j0 => (52, [.ref 148, .int a1, .int a2, .int a3, a4], [.int j0, .ref 161], sM Ln I1 L1 c s)) (fun j0 => (53, [.ref 148, .int a1, .int a2, .int a3, a4], [.int (I1 161 (tn j0))], sM Ln I1 L1 c s)) (fun j0 => 0 ≤ j0 ∧ tn j0 < 1984) (((31 : Int32) * a3) + a1) (fun j0 hc h => dd_Rn.chk 0 (c := 0 ≤ j0 ∧ tn j0 < 1984) (A := (53, [.ref 148, .int a1, .int a2, .int a3, a4], [.int (I1 161 (tn j0))], sM Ln I1 L1 c s)) rfl hc h (by omega)) hc ?_
      refine dd_Rn.se (cf := (53, [.ref 148, .int a1, .int a2, .int a3, a4], [.int (I1 161 (tn (((31 : Int32) * a3) + a1)))], sM Ln I1 L1 c s)) ?_
      obtain ⟨hc, h⟩ := h
      refine dd_Rn.go 5 (cf' := (62, [.ref 148, .int a1, .int a2, .int a3, .int (I1 161 (tn (((31 : Int32) * a3) + a1)))], [.int (I1 161 (tn (((31 : Int32) * a3) + a1))), .ref 162, .int (I1 161 (tn (((31 : Int32) * a3) + a1))), .ref 162], sM Ln I1 L1 c s)) rfl ?_ (by omega)
      refine dd_Rn.ci (fun j0 => (62, [.ref 148, .int a1, .int a2, .int a3, .int (I1 161 (tn (((31 : Int32) * a3) + a1)))], [.int j0, .ref 162, .int (I1 161 (tn (((31 : Int32) * a3) + a1))), .ref 162], sM Ln I1 L1 c s)) (fun j0 => (63, [.ref 148, .int a1, .int a2, .int a3, .int (I1 161 (tn (((31 : Int32) * a3) + a1)))], [.int (I1 162 (tn j0)), .int (I1 161 (tn (((31 : Int32) * a3) + a1))), .ref 162], sM Ln I1 L1 c s)) (fun j0 => 0 ≤ j0 ∧ tn j0 < 15) (I1 161 (tn (((31 : Int32) * a3) + a1))) (fun j0 hc h => dd_Rn.chk 0 (c := 0 ≤ j0 ∧ tn j0 < 15) (A := (63, [.ref 148, .int a1, .int a2, .int a3, .int (I1 161 (tn (((31 : Int32) * a3) + a1)))], [.int (I1 162 (tn j0)), .int (I1 161 (tn (((31 : Int32) * a3) + a1))), .ref 162], sM Ln I1 L1 c s)) rfl hc h (by omega)) hc ?_
      refine dd_Rn.se (cf := (63, [.ref 148, .int a1, .int a2, .int a3, .int (I1 161 (tn (((31 : Int32) * a3) + a1)))], [.int (I1 162 (tn (I1 161 (tn (((31 : Int32) * a3) + a1))))), .int (I1 161 (tn (((31 : Int32) * a3) + a1))), .ref 162], sM Ln I1 L1 c s)) ?_
      obtain ⟨hc, h⟩ := h
      refine dd_Rn.go 2 (cf' := (65, [.ref 148, .int a1, .int a2, .int a3, .int (I1 161 (tn (((31 : Int32) * a3) + a1)))], [.int ((I1 162 (tn (I1 161 (tn (((31 : Int32) * a3) + a1))))) + 1), .int (I1 161 (tn (((31 : Int32) * a3) + a1))), .ref 162], sM Ln I1 L1 c s)) rfl ?_ (by omega)
      refine dd_Rn.ci (fun j0 => (65, [.ref 148, .int a1, .int a2, .int a3, .int (I1 161 (tn (((31 : Int32) * a3) + a1)))], [.int ((I1 162 (tn (I1 161 (tn (((31 : Int32) * a3) + a1))))) + 1), .int j0, .ref 162], sM Ln I1 L1 c s)) (fun j0 => (66, [.ref 148, .int a1, .int a2, .int a3, .int (I1 161 (tn (((31 : Int32) * a3) + a1)))], [], sM Ln (dd_u I1 162 (upd (I1 162) (tn j0) ((I1 162 (tn (I1 161 (tn (((31 : Int32) * a3) + a1))))) + 1))) L1 c s)) (fun j0 => 0 ≤ j0 ∧ tn j0 < 15) (I1 161 (tn (((31 : Int32) * a3) + a1))) (fun j0 hc h => dd_Rn.chk 0 (c := 0 ≤ j0 ∧ tn j0 < 15) (A := (66, [.ref 148, .int a1, .int a2, .int a3, .int (I1 161 (tn (((31 : Int32) * a3) + a1)))], [], sM Ln (dd_u I1 162 (upd (I1 162) (tn j0) ((I1 162 (tn (I1 161 (tn (((31 : Int32) * a3) + a1))))) + 1))) L1 c s)) rfl hc h (by omega)) hc ?_
      refine dd_Rn.se (cf := (66, [.ref 148, .int a1, .int a2, .int a3, .int (I1 161 (tn (((31 : Int32) * a3) + a1)))], [], sM Ln (dd_u I1 162 (upd (I1 162) (tn (I1 161 (tn (((31 : Int32) * a3) + a1)))) ((I1 162 (tn (I1 161 (tn (((31 : Int32) * a3) + a1))))) + 1))) L1 c s)) ?_
      obtain ⟨hc, h⟩ := h
      refine dd_Rn.go 4 (cf' := (73, [.ref 148, .int a1, .int a2, .int a3, .int (I1 161 (tn (((31 : Int32) * a3) + a1)))], [.int (I1 161 (tn (((31 : Int32) * a3) + a1))), .ref 162, .int a2], sM Ln (dd_u I1 162 (upd (I1 162) (tn (I1 161 (tn (((31 : Int32) * a3) + a1)))) ((I1 162 (tn (I1 161 (tn (((31 : Int32) * a3) + a1))))) + 1))) L1 c s)) rfl ?_ (by omega)
      refine dd_Rn.ci (fun j0 => (73, [.ref 148, .int a1, .int a2, .int a3, .int (I1 161 (tn (((31 : Int32) * a3) + a1)))], [.int j0, .ref 162, .int a2], sM Ln (dd_u I1 162 (upd (I1 162) (tn (I1 161 (tn (((31 : Int32) * a3) + a1)))) ((I1 162 (tn (I1 161 (tn (((31 : Int32) * a3) + a1))))) + 1))) L1 c s)) (fun j0 => (74, [.ref 148, .int a1, .int a2, .int a3, .int (I1 161 (tn (((31 : Int32) * a3) + a1)))], [.int ((upd (I1 162) (tn (I1 161 (tn (((31 : Int32) * a3) + a1)))) ((I1 162 (tn (I1 161 (tn (((31 : Int32) * a3) + a1))))) + 1)) (tn j0)), .int a2], sM Ln (dd_u I1 162 (upd (I1 162) (tn (I1 161 (tn (((31 : Int32) * a3) + a1)))) ((I1 162 (tn (I1 161 (tn (((31 : Int32) * a3) + a1))))) + 1))) L1 c s)) (fun j0 => 0 ≤ j0 ∧ tn j0 < 15) (I1 161 (tn (((31 : Int32) * a3) + a1))) (fun j0 hc h => dd_Rn.chk 0 (c := 0 ≤ j0 ∧ tn j0 < 15) (A := (74, [.ref 148, .int a1, .int a2, .int a3, .int (I1 161 (tn (((31 : Int32) * a3) + a1)))], [.int ((upd (I1 162) (tn (I1 161 (tn (((31 : Int32) * a3) + a1)))) ((I1 162 (tn (I1 161 (tn (((31 : Int32) * a3) + a1))))) + 1)) (tn j0)), .int a2], sM Ln (dd_u I1 162 (upd (I1 162) (tn (I1 161 (tn (((31 : Int32) * a3) + a1)))) ((I1 162 (tn (I1 161 (tn (((31 : Int32) * a3) + a1))))) + 1))) L1 c s)) rfl hc h (by omega)) hc ?_
      refine dd_Rn.se (cf := (74, [.ref 148, .int a1, .int a2, .int a3, .int (I1 161 (tn (((31 : Int32) * a3) + a1)))], [.int ((upd (I1 162) (tn (I1 161 (tn (((31 : Int32) * a3) + a1)))) ((I1 162 (tn (I1 161 (tn (((31 : Int32) * a3) + a1))))) + 1)) (tn (I1 161 (tn (((31 : Int32) * a3) + a1))))), .int a2], sM Ln (dd_u I1 162 (upd (I1 162) (tn (I1 161 (tn (((31 : Int32) * a3) + a1)))) ((I1 162 (tn (I1 161 (tn (((31 : Int32) * a3) + a1))))) + 1))) L1 c s)) ?_
      exact dd_Rn.go 4 (cf' := (25, [.ref 148, .int a1, .int (if a2 < (upd (I1 162) (tn (I1 161 (tn (((31 : Int32) * a3) + a1)))) ((I1 162 (tn (I1 161 (tn (((31 : Int32) * a3) + a1))))) + 1)) (tn (I1 161 (tn (((31 : Int32) * a3) + a1)))) then (upd (I1 162) (tn (I1 161 (tn (((31 : Int32) * a3) + a1)))) ((I1 162 (tn (I1 161 (tn (((31 : Int32) * a3) + a1))))) + 1)) (tn (I1 161 (tn (((31 : Int32) * a3) + a1)))) else a2), .int (a3 + 1), .int (I1 161 (tn (((31 : Int32) * a3) + a1)))], [], sM Ln (dd_u I1 162 (upd (I1 162) (tn (I1 161 (tn (((31 : Int32) * a3) + a1)))) ((I1 162 (tn (I1 161 (tn (((31 : Int32) * a3) + a1))))) + 1))) L1 c s)) rfl h (by omega)

theorem w_X11_listen_0 {Ln d c s : Nat} {I : Nat → Nat → Int32} {L : Nat → Nat → Int64} {Q : dd_O → Prop} (hd : 28 ≤ d) (h : dd_Ev (d - 1) m_X11_isSounding [.ref 148] (sM Ln (dd_u (dd_u (dd_u (dd_u I 148 (upd (I 148) 0 0)) 148 (upd (upd (I 148) 0 0) 11 (I 148 9))) 148 (upd (upd (upd (I 148) 0 0) 11 (I 148 9)) 9 0)) 148 (upd (upd (upd (upd (I 148) 0 0) 11 (I 148 9)) 9 0) 10 0)) L c s) (dd_RI Ln c s (fun x1 I1 L1 => ((x1 = 0 → Q (none, .int 0, sM Ln (dd_u I1 148 (upd (I1 148) 0 1)) L1 c s)) ∧ (¬ (x1 = 0) → dd_Ev (d - 1) m_X11_laysNears [.ref 148] (sM Ln I1 L1 c s) (dd_RV Ln c s (fun I2 L2 => dd_Rn d m_X11_listen (34, [.ref 148, .int 0, .int 0, .null, .null, .null], [], sM Ln I2 L2 c s) Q))))))) : dd_Ev d m_X11_listen [.ref 148] (sM Ln I L c s) Q := by
  obtain ⟨e, rfl⟩ : ∃ e, d = e + 16 := ⟨d - 16, by omega⟩
  show dd_Rn (e + 16) m_X11_listen (0, [.ref 148, .null, .null, .null, .null, .null], [], sM Ln I L c s) Q
  refine dd_Rn.sub 1 (pc := 1) (ls := [.ref 148, .null, .null, .null, .null, .null]) (st := [.ref 148]) (M := sM Ln I L c s) (x := m_X11_uses) (as := [.ref 148]) (rest := []) rfl rfl rfl rfl ?_
  show dd_Rn (e + 15) m_X11_uses (0, [.ref 148], [], sM Ln I L c s) _
  refine dd_Rn.retK 13 (pc := 23) (ls := [.ref 148]) (st := []) (M := sM Ln (dd_u (dd_u (dd_u (dd_u I 148 (upd (I 148) 0 0)) 148 (upd (upd (I 148) 0 0) 11 (I 148 9))) 148 (upd (upd (upd (I 148) 0 0) 11 (I 148 9)) 9 0)) 148 (upd (upd (upd (upd (I 148) 0 0) 11 (I 148 9)) 9 0) 10 0)) L c s) (o := (none, .null, sM Ln (dd_u (dd_u (dd_u (dd_u I 148 (upd (I 148) 0 0)) 148 (upd (upd (I 148) 0 0) 11 (I 148 9))) 148 (upd (upd (upd (I 148) 0 0) 11 (I 148 9)) 9 0)) 148 (upd (upd (upd (upd (I 148) 0 0) 11 (I 148 9)) 9 0) 10 0)) L c s)) rfl rfl (dd_Af.ret rfl ?_) (by omega)
  show dd_Rn (e + 16) m_X11_listen (4, [.ref 148, .null, .null, .null, .null, .null], [], sM Ln (dd_u (dd_u (dd_u (dd_u I 148 (upd (I 148) 0 0)) 148 (upd (upd (I 148) 0 0) 11 (I 148 9))) 148 (upd (upd (upd (I 148) 0 0) 11 (I 148 9)) 9 0)) 148 (upd (upd (upd (upd (I 148) 0 0) 11 (I 148 9)) 9 0) 10 0)) L c s) _
  refine dd_Rn.cI 2 (pc := 6) (ls := [.ref 148, .null, .null, .null, .null, .null]) (st := [.ref 148, .ref 148]) (x := m_X11_isSounding) (as := [.ref 148]) (rest := [.ref 148]) rfl rfl rfl rfl h ?_
  intro x1 I1 L1 h
  show dd_Rn (e + 16) m_X11_listen (9, [.ref 148, .null, .null, .null, .null, .null], [.int x1, .ref 148], sM Ln I1 L1 c s) _
  refine dd_Rn.ite 0 (c := x1 = 0) (A := (12, [.ref 148, .null, .null, .null, .null, .null], [.ref 148], sM Ln I1 L1 c s)) (B := (16, [.ref 148, .null, .null, .null, .null, .null], [.ref 148], sM Ln I1 L1 c s)) rfl (fun hc => ?_) (fun hc => ?_) (by omega)
  · have h := h.1 hc
    refine dd_Rn.sub 3 (pc := 18) (ls := [.ref 148, .null, .null, .null, .null, .null]) (st := [.int 1, .int 1, .ref 148]) (M := sM Ln I1 L1 c s) (x := m_X11_throwsIf) (as := [.ref 148, .int 1, .int 1]) (rest := []) rfl rfl rfl rfl ?_
    show dd_Rn (e + 15) m_X11_throwsIf (0, [.ref 148, .int 1, .int 1], [], sM Ln I1 L1 c s) _
    refine dd_Rn.retK 6 (pc := 10) (ls := [.ref 148, .int 1, .int 1]) (st := [.int 1]) (M := sM Ln (dd_u I1 148 (upd (I1 148) 0 1)) L1 c s) (o := (none, .int 1, sM Ln (dd_u I1 148 (upd (I1 148) 0 1)) L1 c s)) rfl rfl (dd_Af.ret rfl ?_) (by omega)
    show dd_Rn (e + 16) m_X11_listen (21, [.ref 148, .null, .null, .null, .null, .null], [.int 1], sM Ln (dd_u I1 148 (upd (I1 148) 0 1)) L1 c s) _
    exact dd_Rn.retK 2 (pc := 25) (ls := [.ref 148, .null, .null, .null, .null, .null]) (st := [.int 0]) (M := sM Ln (dd_u I1 148 (upd (I1 148) 0 1)) L1 c s) (o := (none, .int 0, sM Ln (dd_u I1 148 (upd (I1 148) 0 1)) L1 c s)) rfl rfl h (by omega)
  · have h := h.2 hc
    refine dd_Rn.sub 2 (pc := 18) (ls := [.ref 148, .null, .null, .null, .null, .null]) (st := [.int 1, .int 0, .ref 148]) (M := sM Ln I1 L1 c s) (x := m_X11_throwsIf) (as := [.ref 148, .int 0, .int 1]) (rest := []) rfl rfl rfl rfl ?_
    show dd_Rn (e + 15) m_X11_throwsIf (0, [.ref 148, .int 0, .int 1], [], sM Ln I1 L1 c s) _
    refine dd_Rn.retK 3 (pc := 10) (ls := [.ref 148, .int 0, .int 1]) (st := [.int 0]) (M := sM Ln I1 L1 c s) (o := (none, .int 0, sM Ln I1 L1 c s)) rfl rfl (dd_Af.ret rfl ?_) (by omega)
    show dd_Rn (e + 16) m_X11_listen (21, [.ref 148, .null, .null, .null, .null, .null], [.int 0], sM Ln I1 L1 c s) _
    refine dd_Rn.cV 2 (pc := 27) (ls := [.ref 148, .null, .null, .null, .null, .null]) (st := [.ref 148]) (x := m_X11_laysNears) (as := [.ref 148]) (rest := []) rfl rfl rfl rfl h ?_
    intro I2 L2 h
    show dd_Rn (e + 16) m_X11_listen (30, [.ref 148, .null, .null, .null, .null, .null], [], sM Ln I2 L2 c s) _
    exact dd_Rn.go 4 (cf' := (34, [.ref 148, .int 0, .int 0, .null, .null, .null], [], sM Ln I2 L2 c s)) rfl h (by omega)

theorem w_X11_listen_34 {Ln d c s : Nat} {I : Nat → Nat → Int32} {L : Nat → Nat → Int64} {Q : dd_O → Prop} {a1 a2 : Int32} (hd : 28 ≤ d) (h : (((64 : Int32) ≤ a2 → dd_Rn d m_X11_listen (71, [.ref 148, .int a1, .int (-1), .int 1000000, .int 0, .null], [], sM Ln I L c s) Q) ∧ (¬ ((64 : Int32) ≤ a2) → dd_Ev (d - 1) m_X11_fits [.ref 148, .int a2] (sM Ln I L c s) (dd_RI Ln c s (fun x1 I1 L1 => ((x1 = 0 → dd_Rn d m_X11_listen (34, [.ref 148, .int (a1 + 0), .int (a2 + 1), .null, .null, .null], [], sM Ln I1 L1 c s) Q) ∧ (¬ (x1 = 0) → dd_Rn d m_X11_listen (34, [.ref 148, .int (a1 + 1), .int (a2 + 1), .null, .null, .null], [], sM Ln I1 L1 c s) Q))))))) : dd_Rn d m_X11_listen (34, [.ref 148, .int a1, .int a2, .null, .null, .null], [], sM Ln I L c s) Q := by
  obtain ⟨e, rfl⟩ : ∃ e, d = e + 16 := ⟨d - 16, by omega⟩
  refine dd_Rn.ite 2 (c := (64 : Int32) ≤ a2) (A := (62, [.ref 148, .int a1, .int a2, .null, .null, .null], [], sM Ln I L c s)) (B := (40, [.ref 148, .int a1, .int a2, .null, .null, .null], [], sM Ln I L c s)) rfl (fun hc => ?_) (fun hc => ?_) (by omega)
  · have h := h.1 hc
    exact dd_Rn.go 6 (cf' := (71, [.ref 148, .int a1, .int (-1), .int 1000000, .int 0, .null], [], sM Ln I L c s)) rfl h (by omega)
  · have h := h.2 hc
    refine dd_Rn.cI 3 (pc := 43) (ls := [.ref 148, .int a1, .int a2, .null, .null, .null]) (st := [.int a2, .ref 148, .int a1]) (x := m_X11_fits) (as := [.ref 148, .int a2]) (rest := [.int a1]) rfl rfl rfl rfl h ?_
    intro x1 I1 L1 h
    show dd_Rn (e + 16) m_X11_listen (46, [.ref 148, .int a1, .int a2, .null, .null, .null], [.int x1, .int a1], sM Ln I1 L1 c s) _
    refine dd_Rn.ite 0 (c := x1 = 0) (A := (53, [.ref 148, .int a1, .int a2, .null, .null, .null], [.int a1], sM Ln I1 L1 c s)) (B := (49, [.ref 148, .int a1, .int a2, .null, .null, .null], [.int a1], sM Ln I1 L1 c s)) rfl (fun hc => ?_) (fun hc => ?_) (by omega)
    · have h := h.1 hc
      exact dd_Rn.go 5 (cf' := (34, [.ref 148, .int (a1 + 0), .int (a2 + 1), .null, .null, .null], [], sM Ln I1 L1 c s)) rfl h (by omega)
    · have h := h.2 hc
      exact dd_Rn.go 6 (cf' := (34, [.ref 148, .int (a1 + 1), .int (a2 + 1), .null, .null, .null], [], sM Ln I1 L1 c s)) rfl h (by omega)

theorem w_X11_listen_71 {Ln d c s : Nat} {I : Nat → Nat → Int32} {L : Nat → Nat → Int64} {Q : dd_O → Prop} {a1 a2 a3 a4 : Int32} {a5 : Value} (hd : 28 ≤ d) (h : (((30 : Int32) < a4 → Q (none, .int a2, sM Ln I L c s)) ∧ (¬ ((30 : Int32) < a4) → ((a1 ≤ 1 → Q (none, .int a2, sM Ln I L c s)) ∧ (¬ (a1 ≤ 1) → dd_Ev (d - 1) m_X11_partBy [.ref 148, .int a4] (sM Ln I L c s) (dd_RI Ln c s (fun x1 I1 L1 => ((a3 ≤ x1 → dd_Rn d m_X11_listen (71, [.ref 148, .int a1, .int a2, .int (if x1 < a3 then x1 else a3), .int (a4 + 1), .int x1], [], sM Ln I1 L1 c s) Q) ∧ (¬ (a3 ≤ x1) → dd_Rn d m_X11_listen (71, [.ref 148, .int a1, .int a4, .int (if x1 < a3 then x1 else a3), .int (a4 + 1), .int x1], [], sM Ln I1 L1 c s) Q))))))))) : dd_Rn d m_X11_listen (71, [.ref 148, .int a1, .int a2, .int a3, .int a4, a5], [], sM Ln I L c s) Q := by
  obtain ⟨e, rfl⟩ : ∃ e, d = e + 16 := ⟨d - 16, by omega⟩
  refine dd_Rn.ite 2 (c := (30 : Int32) < a4) (A := (117, [.ref 148, .int a1, .int a2, .int a3, .int a4, a5], [], sM Ln I L c s)) (B := (78, [.ref 148, .int a1, .int a2, .int a3, .int a4, a5], [], sM Ln I L c s)) rfl (fun hc => ?_) (fun hc => ?_) (by omega)
  · have h := h.1 hc
    exact dd_Rn.retK 1 (pc := 118) (ls := [.ref 148, .int a1, .int a2, .int a3, .int a4, a5]) (st := [.int a2]) (M := sM Ln I L c s) (o := (none, .int a2, sM Ln I L c s)) rfl rfl h (by omega)
  · have h := h.2 hc
    refine dd_Rn.ite 2 (c := a1 ≤ 1) (A := (117, [.ref 148, .int a1, .int a2, .int a3, .int a4, a5], [], sM Ln I L c s)) (B := (83, [.ref 148, .int a1, .int a2, .int a3, .int a4, a5], [], sM Ln I L c s)) rfl (fun hc => ?_) (fun hc => ?_) (by omega)
    · have h := h.1 hc
      exact dd_Rn.retK 1 (pc := 118) (ls := [.ref 148, .int a1, .int a2, .int a3, .int a4, a5]) (st := [.int a2]) (M := sM Ln I L c s) (o := (none, .int a2, sM Ln I L c s)) rfl rfl h (by omega)
    · have h := h.2 hc
      refine dd_Rn.cI 2 (pc := 86) (ls := [.ref 148, .int a1, .int a2, .int a3, .int a4, a5]) (st := [.int a4, .ref 148]) (x := m_X11_partBy) (as := [.ref 148, .int a4]) (rest := []) rfl rfl rfl rfl h ?_
      intro x1 I1 L1 h
      show dd_Rn (e + 16) m_X11_listen (89, [.ref 148, .int a1, .int a2, .int a3, .int a4, a5], [.int x1], sM Ln I1 L1 c s) _
      refine dd_Rn.ite 3 (c := a3 ≤ x1) (A := (102, [.ref 148, .int a1, .int a2, .int a3, .int a4, .int x1], [], sM Ln I1 L1 c s)) (B := (97, [.ref 148, .int a1, .int a2, .int a3, .int a4, .int x1], [], sM Ln I1 L1 c s)) rfl (fun hc => ?_) (fun hc => ?_) (by omega)
      · have h := h.1 hc
        exact dd_Rn.go 8 (cf' := (71, [.ref 148, .int a1, .int a2, .int (if x1 < a3 then x1 else a3), .int (a4 + 1), .int x1], [], sM Ln I1 L1 c s)) rfl h (by omega)
      · have h := h.2 hc
        exact dd_Rn.go 9 (cf' := (71, [.ref 148, .int a1, .int a4, .int (if x1 < a3 then x1 else a3), .int (a4 + 1), .int x1], [], sM Ln I1 L1 c s)) rfl h (by omega)

theorem w_X11_isHeardTape_0 {Ln d c s : Nat} {I : Nat → Nat → Int32} {L : Nat → Nat → Int64} {Q : dd_O → Prop} (hd : 28 ≤ d) (h : (((I 148 11) - (I 148 11) / 2 * 2 = 0 → (((40 : Int32) < I 148 11 → dd_Rn d m_X11_isHeardTape (26, [.ref 148, .int 0, .int 0], [], sM Ln I L c s) Q) ∧ (¬ ((40 : Int32) < I 148 11) → dd_Rn d m_X11_isHeardTape (26, [.ref 148, .int 1, .int 0], [], sM Ln I L c s) Q))) ∧ (¬ ((I 148 11) - (I 148 11) / 2 * 2 = 0) → dd_Rn d m_X11_isHeardTape (26, [.ref 148, .int 0, .int 0], [], sM Ln I L c s) Q))) : dd_Ev d m_X11_isHeardTape [.ref 148] (sM Ln I L c s) Q := by
  obtain ⟨e, rfl⟩ : ∃ e, d = e + 16 := ⟨d - 16, by omega⟩
  show dd_Rn (e + 16) m_X11_isHeardTape (0, [.ref 148, .null, .null], [], sM Ln I L c s) Q
  refine dd_Rn.ite 4 (c := (I 148 11) - (I 148 11) / 2 * 2 = 0) (A := (9, [.ref 148, .null, .null], [], sM Ln I L c s)) (B := (22, [.ref 148, .null, .null], [], sM Ln I L c s)) rfl (fun hc => ?_) (fun hc => ?_) (by omega)
  · have h := h.1 hc
    refine dd_Rn.ite 3 (c := (40 : Int32) < I 148 11) (A := (22, [.ref 148, .null, .null], [], sM Ln I L c s)) (B := (18, [.ref 148, .null, .null], [], sM Ln I L c s)) rfl (fun hc => ?_) (fun hc => ?_) (by omega)
    · have h := h.1 hc
      exact dd_Rn.go 4 (cf' := (26, [.ref 148, .int 0, .int 0], [], sM Ln I L c s)) rfl h (by omega)
    · have h := h.2 hc
      exact dd_Rn.go 5 (cf' := (26, [.ref 148, .int 1, .int 0], [], sM Ln I L c s)) rfl h (by omega)
  · have h := h.2 hc
    exact dd_Rn.go 4 (cf' := (26, [.ref 148, .int 0, .int 0], [], sM Ln I L c s)) rfl h (by omega)

theorem w_X11_isHeardTape_26 {Ln d c s : Nat} {I : Nat → Nat → Int32} {L : Nat → Nat → Int64} {Q : dd_O → Prop} {a1 a2 : Int32} (hd : 28 ≤ d) (h : ((I 148 11 ≤ a2 → ((a1 = 0 ∨ a1 = 1) ∧ Q (none, .int a1, sM Ln I L c s))) ∧ (¬ (I 148 11 ≤ a2) → ((a1 = 0 → ((a1 = 0 ∨ a1 = 1) ∧ Q (none, .int a1, sM Ln I L c s))) ∧ (¬ (a1 = 0) → ((0 ≤ a2 ∧ tn a2 < 400) ∧ ((I 154 (tn a2) < 0 → dd_Rn d m_X11_isHeardTape (26, [.ref 148, .int 0, .int (a2 + 2)], [], sM Ln I L c s) Q) ∧ (¬ (I 154 (tn a2) < 0) → (((63 : Int32) < I 154 (tn a2) → dd_Rn d m_X11_isHeardTape (26, [.ref 148, .int 0, .int (a2 + 2)], [], sM Ln I L c s) Q) ∧ (¬ ((63 : Int32) < I 154 (tn a2)) → ((0 ≤ a2 ∧ tn a2 < 400) ∧ ((0 ≤ (11 : Int32) + (I 154 (tn a2)) ∧ tn ((11 : Int32) + (I 154 (tn a2))) < 2220) ∧ ((I 149 (tn ((11 : Int32) + (I 154 (tn a2)))) = 1 → dd_Rn d m_X11_isHeardTape (26, [.ref 148, .int 0, .int (a2 + 2)], [], sM Ln I L c s) Q) ∧ (¬ (I 149 (tn ((11 : Int32) + (I 154 (tn a2)))) = 1) → ((0 ≤ a2 ∧ tn a2 < 400) ∧ ((I 154 (tn a2) = I 149 4 → dd_Rn d m_X11_isHeardTape (26, [.ref 148, .int 0, .int (a2 + 2)], [], sM Ln I L c s) Q) ∧ (¬ (I 154 (tn a2) = I 149 4) → ((0 ≤ a2 + 1 ∧ tn (a2 + 1) < 400) ∧ ((I 154 (tn (a2 + 1)) < 0 → dd_Rn d m_X11_isHeardTape (26, [.ref 148, .int 0, .int (a2 + 2)], [], sM Ln I L c s) Q) ∧ (¬ (I 154 (tn (a2 + 1)) < 0) → (((1 : Int32) < I 154 (tn (a2 + 1)) → dd_Rn d m_X11_isHeardTape (26, [.ref 148, .int 0, .int (a2 + 2)], [], sM Ln I L c s) Q) ∧ (¬ ((1 : Int32) < I 154 (tn (a2 + 1))) → dd_Rn d m_X11_isHeardTape (26, [.ref 148, .int 1, .int (a2 + 2)], [], sM Ln I L c s) Q)))))))))))))))))))))) : dd_Rn d m_X11_isHeardTape (26, [.ref 148, .int a1, .int a2], [], sM Ln I L c s) Q := by
  obtain ⟨e, rfl⟩ : ∃ e, d = e + 16 := ⟨d - 16, by omega⟩
  refine dd_Rn.ite 3 (c := I 148 11 ≤ a2) (A := (106, [.ref 148, .int a1, .int a2], [], sM Ln I L c s)) (B := (34, [.ref 148, .int a1, .int a2], [], sM Ln I L c s)) rfl (fun hc => ?_) (fun hc => ?_) (by omega)
  · have h := h.1 hc
    obtain ⟨hc, h⟩ := h
    exact dd_Rn.retB 1 (cf' := (107, [.ref 148, .int a1, .int a2], [.int a1], sM Ln I L c s)) (v := a1) rfl rfl hc h (by omega)
  · have h := h.2 hc
    refine dd_Rn.ite 1 (c := a1 = 0) (A := (106, [.ref 148, .int a1, .int a2], [], sM Ln I L c s)) (B := (38, [.ref 148, .int a1, .int a2], [], sM Ln I L c s)) rfl (fun hc => ?_) (fun hc => ?_) (by omega)
    · have h := h.1 hc
      obtain ⟨hc, h⟩ := h
      exact dd_Rn.retB 1 (cf' := (107, [.ref 148, .int a1, .int a2], [.int a1], sM Ln I L c s)) (v := a1) rfl rfl hc h (by omega)
    · have h := h.2 hc
      obtain ⟨hc, h⟩ := h
      refine dd_Rn.chk 3 (c := 0 ≤ a2 ∧ tn a2 < 400) (A := (44, [.ref 148, .int a1, .int a2], [.int (I 154 (tn a2))], sM Ln I L c s)) rfl hc ?_ (by omega)
      refine dd_Rn.sub 0 (pc := 44) (ls := [.ref 148, .int a1, .int a2]) (st := [.int (I 154 (tn a2))]) (M := sM Ln I L c s) (x := m_X11_noCell) (as := [.int (I 154 (tn a2))]) (rest := []) rfl rfl rfl rfl ?_
      show dd_Rn (e + 15) m_X11_noCell (0, [.int (I 154 (tn a2))], [], sM Ln I L c s) _
      refine dd_Rn.sub 3 (pc := 4) (ls := [.int (I 154 (tn a2))]) (st := [.int 63, .int 0, .int (I 154 (tn a2))]) (M := sM Ln I L c s) (x := m_X11_in) (as := [.int (I 154 (tn a2)), .int 0, .int 63]) (rest := []) rfl rfl rfl rfl ?_
      show dd_Rn (e + 14) m_X11_in (0, [.int (I 154 (tn a2)), .int 0, .int 63], [], sM Ln I L c s) _
      refine dd_Rn.ite 2 (c := I 154 (tn a2) < 0) (A := (14, [.int (I 154 (tn a2)), .int 0, .int 63], [], sM Ln I L c s)) (B := (5, [.int (I 154 (tn a2)), .int 0, .int 63], [], sM Ln I L c s)) rfl (fun hc => ?_) (fun hc => ?_) (by omega)
      · have h := h.1 hc
        refine dd_Rn.retK 1 (pc := 15) (ls := [.int (I 154 (tn a2)), .int 0, .int 63]) (st := [.int 0]) (M := sM Ln I L c s) (o := (none, .int 0, sM Ln I L c s)) rfl rfl (dd_Af.ret rfl ?_) (by omega)
        show dd_Rn (e + 15) m_X11_noCell (7, [.int (I 154 (tn a2))], [.int 0], sM Ln I L c s) _
        refine dd_Rn.retK 3 (pc := 15) (ls := [.int (I 154 (tn a2))]) (st := [.int 1]) (M := sM Ln I L c s) (o := (none, .int 1, sM Ln I L c s)) rfl rfl (dd_Af.ret rfl ?_) (by omega)
        show dd_Rn (e + 16) m_X11_isHeardTape (47, [.ref 148, .int a1, .int a2], [.int 1], sM Ln I L c s) _
        exact dd_Rn.go 5 (cf' := (26, [.ref 148, .int 0, .int (a2 + 2)], [], sM Ln I L c s)) rfl h (by omega)
      · have h := h.2 hc
        refine dd_Rn.ite 2 (c := (63 : Int32) < I 154 (tn a2)) (A := (14, [.int (I 154 (tn a2)), .int 0, .int 63], [], sM Ln I L c s)) (B := (10, [.int (I 154 (tn a2)), .int 0, .int 63], [], sM Ln I L c s)) rfl (fun hc => ?_) (fun hc => ?_) (by omega)
        · have h := h.1 hc
          refine dd_Rn.retK 1 (pc := 15) (ls := [.int (I 154 (tn a2)), .int 0, .int 63]) (st := [.int 0]) (M := sM Ln I L c s) (o := (none, .int 0, sM Ln I L c s)) rfl rfl (dd_Af.ret rfl ?_) (by omega)
          show dd_Rn (e + 15) m_X11_noCell (7, [.int (I 154 (tn a2))], [.int 0], sM Ln I L c s) _
          refine dd_Rn.retK 3 (pc := 15) (ls := [.int (I 154 (tn a2))]) (st := [.int 1]) (M := sM Ln I L c s) (o := (none, .int 1, sM Ln I L c s)) rfl rfl (dd_Af.ret rfl ?_) (by omega)
          show dd_Rn (e + 16) m_X11_isHeardTape (47, [.ref 148, .int a1, .int a2], [.int 1], sM Ln I L c s) _
          exact dd_Rn.go 5 (cf' := (26, [.ref 148, .int 0, .int (a2 + 2)], [], sM Ln I L c s)) rfl h (by omega)
        · have h := h.2 hc
          refine dd_Rn.retK 2 (pc := 15) (ls := [.int (I 154 (tn a2)), .int 0, .int 63]) (st := [.int 1]) (M := sM Ln I L c s) (o := (none, .int 1, sM Ln I L c s)) rfl rfl (dd_Af.ret rfl ?_) (by omega)
          show dd_Rn (e + 15) m_X11_noCell (7, [.int (I 154 (tn a2))], [.int 1], sM Ln I L c s) _
          refine dd_Rn.retK 2 (pc := 15) (ls := [.int (I 154 (tn a2))]) (st := [.int 0]) (M := sM Ln I L c s) (o := (none, .int 0, sM Ln I L c s)) rfl rfl (dd_Af.ret rfl ?_) (by omega)
          show dd_Rn (e + 16) m_X11_isHeardTape (47, [.ref 148, .int a1, .int a2], [.int 0], sM Ln I L c s) _
          obtain ⟨hc, h⟩ := h
          refine dd_Rn.chk 5 (c := 0 ≤ a2 ∧ tn a2 < 400) (A := (57, [.ref 148, .int a1, .int a2], [.int (I 154 (tn a2)), .ref 148], sM Ln I L c s)) rfl hc ?_ (by omega)
          refine dd_Rn.sub 0 (pc := 57) (ls := [.ref 148, .int a1, .int a2]) (st := [.int (I 154 (tn a2)), .ref 148]) (M := sM Ln I L c s) (x := m_X11_hasTrees) (as := [.ref 148, .int (I 154 (tn a2))]) (rest := []) rfl rfl rfl rfl ?_
          show dd_Rn (e + 15) m_X11_hasTrees (0, [.ref 148, .int (I 154 (tn a2))], [], sM Ln I L c s) _
          obtain ⟨hc, h⟩ := h
          refine dd_Rn.go 5 (cf' := (8, [.ref 148, .int (I 154 (tn a2))], [.int ((11 : Int32) + (I 154 (tn a2))), .ref 149], sM Ln I L c s)) rfl ?_ (by omega)
          refine dd_Rn.ci (fun j0 => (8, [.ref 148, .int (I 154 (tn a2))], [.int j0, .ref 149], sM Ln I L c s)) (fun j0 => (9, [.ref 148, .int (I 154 (tn a2))], [.int (I 149 (tn j0))], sM Ln I L c s)) (fun j0 => 0 ≤ j0 ∧ tn j0 < 2220) ((11 : Int32) + (I 154 (tn a2))) (fun j0 hc h => dd_Rn.chk 0 (c := 0 ≤ j0 ∧ tn j0 < 2220) (A := (9, [.ref 148, .int (I 154 (tn a2))], [.int (I 149 (tn j0))], sM Ln I L c s)) rfl hc h (by omega)) hc ?_
          refine dd_Rn.se (cf := (9, [.ref 148, .int (I 154 (tn a2))], [.int (I 149 (tn ((11 : Int32) + (I 154 (tn a2)))))], sM Ln I L c s)) ?_
          refine dd_Rn.ite 1 (c := I 149 (tn ((11 : Int32) + (I 154 (tn a2)))) = 1) (A := (13, [.ref 148, .int (I 154 (tn a2))], [], sM Ln I L c s)) (B := (17, [.ref 148, .int (I 154 (tn a2))], [], sM Ln I L c s)) rfl (fun hc => ?_) (fun hc => ?_) (by omega)
          · have h := h.1 hc
            refine dd_Rn.retK 2 (pc := 18) (ls := [.ref 148, .int (I 154 (tn a2))]) (st := [.int 1]) (M := sM Ln I L c s) (o := (none, .int 1, sM Ln I L c s)) rfl rfl (dd_Af.ret rfl ?_) (by omega)
            show dd_Rn (e + 16) m_X11_isHeardTape (60, [.ref 148, .int a1, .int a2], [.int 1], sM Ln I L c s) _
            exact dd_Rn.go 5 (cf' := (26, [.ref 148, .int 0, .int (a2 + 2)], [], sM Ln I L c s)) rfl h (by omega)
          · have h := h.2 hc
            refine dd_Rn.retK 1 (pc := 18) (ls := [.ref 148, .int (I 154 (tn a2))]) (st := [.int 0]) (M := sM Ln I L c s) (o := (none, .int 0, sM Ln I L c s)) rfl rfl (dd_Af.ret rfl ?_) (by omega)
            show dd_Rn (e + 16) m_X11_isHeardTape (60, [.ref 148, .int a1, .int a2], [.int 0], sM Ln I L c s) _
            obtain ⟨hc, h⟩ := h
            refine dd_Rn.chk 4 (c := 0 ≤ a2 ∧ tn a2 < 400) (A := (69, [.ref 148, .int a1, .int a2], [.int (I 154 (tn a2))], sM Ln I L c s)) rfl hc ?_ (by omega)
            refine dd_Rn.ite 4 (c := I 154 (tn a2) = I 149 4) (A := (98, [.ref 148, .int a1, .int a2], [], sM Ln I L c s)) (B := (78, [.ref 148, .int a1, .int a2], [], sM Ln I L c s)) rfl (fun hc => ?_) (fun hc => ?_) (by omega)
            · have h := h.1 hc
              exact dd_Rn.go 4 (cf' := (26, [.ref 148, .int 0, .int (a2 + 2)], [], sM Ln I L c s)) rfl h (by omega)
            · have h := h.2 hc
              obtain ⟨hc, h⟩ := h
              refine dd_Rn.go 5 (cf' := (85, [.ref 148, .int a1, .int a2], [.int (a2 + 1), .ref 154], sM Ln I L c s)) rfl ?_ (by omega)
              refine dd_Rn.ci (fun j0 => (85, [.ref 148, .int a1, .int a2], [.int j0, .ref 154], sM Ln I L c s)) (fun j0 => (86, [.ref 148, .int a1, .int a2], [.int (I 154 (tn j0))], sM Ln I L c s)) (fun j0 => 0 ≤ j0 ∧ tn j0 < 400) (a2 + 1) (fun j0 hc h => dd_Rn.chk 0 (c := 0 ≤ j0 ∧ tn j0 < 400) (A := (86, [.ref 148, .int a1, .int a2], [.int (I 154 (tn j0))], sM Ln I L c s)) rfl hc h (by omega)) hc ?_
              refine dd_Rn.se (cf := (86, [.ref 148, .int a1, .int a2], [.int (I 154 (tn (a2 + 1)))], sM Ln I L c s)) ?_
              refine dd_Rn.sub 2 (pc := 88) (ls := [.ref 148, .int a1, .int a2]) (st := [.int 1, .int 0, .int (I 154 (tn (a2 + 1)))]) (M := sM Ln I L c s) (x := m_X11_in) (as := [.int (I 154 (tn (a2 + 1))), .int 0, .int 1]) (rest := []) rfl rfl rfl rfl ?_
              show dd_Rn (e + 15) m_X11_in (0, [.int (I 154 (tn (a2 + 1))), .int 0, .int 1], [], sM Ln I L c s) _
              refine dd_Rn.ite 2 (c := I 154 (tn (a2 + 1)) < 0) (A := (14, [.int (I 154 (tn (a2 + 1))), .int 0, .int 1], [], sM Ln I L c s)) (B := (5, [.int (I 154 (tn (a2 + 1))), .int 0, .int 1], [], sM Ln I L c s)) rfl (fun hc => ?_) (fun hc => ?_) (by omega)
              · have h := h.1 hc
                refine dd_Rn.retK 1 (pc := 15) (ls := [.int (I 154 (tn (a2 + 1))), .int 0, .int 1]) (st := [.int 0]) (M := sM Ln I L c s) (o := (none, .int 0, sM Ln I L c s)) rfl rfl (dd_Af.ret rfl ?_) (by omega)
                show dd_Rn (e + 16) m_X11_isHeardTape (91, [.ref 148, .int a1, .int a2], [.int 0], sM Ln I L c s) _
                exact dd_Rn.go 5 (cf' := (26, [.ref 148, .int 0, .int (a2 + 2)], [], sM Ln I L c s)) rfl h (by omega)
              · have h := h.2 hc
                refine dd_Rn.ite 2 (c := (1 : Int32) < I 154 (tn (a2 + 1))) (A := (14, [.int (I 154 (tn (a2 + 1))), .int 0, .int 1], [], sM Ln I L c s)) (B := (10, [.int (I 154 (tn (a2 + 1))), .int 0, .int 1], [], sM Ln I L c s)) rfl (fun hc => ?_) (fun hc => ?_) (by omega)
                · have h := h.1 hc
                  refine dd_Rn.retK 1 (pc := 15) (ls := [.int (I 154 (tn (a2 + 1))), .int 0, .int 1]) (st := [.int 0]) (M := sM Ln I L c s) (o := (none, .int 0, sM Ln I L c s)) rfl rfl (dd_Af.ret rfl ?_) (by omega)
                  show dd_Rn (e + 16) m_X11_isHeardTape (91, [.ref 148, .int a1, .int a2], [.int 0], sM Ln I L c s) _
                  exact dd_Rn.go 5 (cf' := (26, [.ref 148, .int 0, .int (a2 + 2)], [], sM Ln I L c s)) rfl h (by omega)
                · have h := h.2 hc
                  refine dd_Rn.retK 2 (pc := 15) (ls := [.int (I 154 (tn (a2 + 1))), .int 0, .int 1]) (st := [.int 1]) (M := sM Ln I L c s) (o := (none, .int 1, sM Ln I L c s)) rfl rfl (dd_Af.ret rfl ?_) (by omega)
                  show dd_Rn (e + 16) m_X11_isHeardTape (91, [.ref 148, .int a1, .int a2], [.int 1], sM Ln I L c s) _
                  exact dd_Rn.go 6 (cf' := (26, [.ref 148, .int 1, .int (a2 + 2)], [], sM Ln I L c s)) rfl h (by omega)

theorem w_X11_wouldHear_0 {Ln d c s : Nat} {I : Nat → Nat → Int32} {L : Nat → Nat → Int64} {Q : dd_O → Prop} {a1 a2 a3 : Int32} (hd : 28 ≤ d) (h : ((0 ≤ ((187 : Int32) + ((5 : Int32) * a1)) + 0 ∧ tn (((187 : Int32) + ((5 : Int32) * a1)) + 0) < 2220) ∧ ((0 ≤ ((187 : Int32) + ((5 : Int32) * a1)) + 2 ∧ tn (((187 : Int32) + ((5 : Int32) * a1)) + 2) < 2220) ∧ dd_Ev (d - 1) m_X11_hears [.ref 148, .int a1] (sM Ln (dd_u (dd_u I 149 (upd (I 149) (tn (((187 : Int32) + ((5 : Int32) * a1)) + 0)) a2)) 149 (upd (upd (I 149) (tn (((187 : Int32) + ((5 : Int32) * a1)) + 0)) a2) (tn (((187 : Int32) + ((5 : Int32) * a1)) + 2)) a3)) L c s) (dd_RI Ln c s (fun x1 I1 L1 => ((x1 = 0 ∨ x1 = 1) ∧ Q (none, .int x1, sM Ln I1 L1 c s))))))) : dd_Ev d m_X11_wouldHear [.ref 148, .int a1, .int a2, .int a3] (sM Ln I L c s) Q := by
  obtain ⟨e, rfl⟩ : ∃ e, d = e + 16 := ⟨d - 16, by omega⟩
  show dd_Rn (e + 16) m_X11_wouldHear (0, [.ref 148, .int a1, .int a2, .int a3], [], sM Ln I L c s) Q
  refine dd_Rn.sub 4 (pc := 6) (ls := [.ref 148, .int a1, .int a2, .int a3]) (st := [.int 0, .int a1, .ref 149]) (M := sM Ln I L c s) (x := m_X11_at) (as := [.int a1, .int 0]) (rest := [.ref 149]) rfl rfl rfl rfl ?_
  show dd_Rn (e + 15) m_X11_at (0, [.int a1, .int 0], [], sM Ln I L c s) _
  refine dd_Rn.retK 7 (pc := 9) (ls := [.int a1, .int 0]) (st := [.int (((187 : Int32) + ((5 : Int32) * a1)) + 0)]) (M := sM Ln I L c s) (o := (none, .int (((187 : Int32) + ((5 : Int32) * a1)) + 0), sM Ln I L c s)) rfl rfl (dd_Af.ret rfl ?_) (by omega)
  show dd_Rn (e + 16) m_X11_wouldHear (9, [.ref 148, .int a1, .int a2, .int a3], [.int (((187 : Int32) + ((5 : Int32) * a1)) + 0), .ref 149], sM Ln I L c s) _
  obtain ⟨hc, h⟩ := h
  refine dd_Rn.go 1 (cf' := (10, [.ref 148, .int a1, .int a2, .int a3], [.int a2, .int (((187 : Int32) + ((5 : Int32) * a1)) + 0), .ref 149], sM Ln I L c s)) rfl ?_ (by omega)
  refine dd_Rn.ci (fun j0 => (10, [.ref 148, .int a1, .int a2, .int a3], [.int a2, .int j0, .ref 149], sM Ln I L c s)) (fun j0 => (11, [.ref 148, .int a1, .int a2, .int a3], [], sM Ln (dd_u I 149 (upd (I 149) (tn j0) a2)) L c s)) (fun j0 => 0 ≤ j0 ∧ tn j0 < 2220) (((187 : Int32) + ((5 : Int32) * a1)) + 0) (fun j0 hc h => dd_Rn.chk 0 (c := 0 ≤ j0 ∧ tn j0 < 2220) (A := (11, [.ref 148, .int a1, .int a2, .int a3], [], sM Ln (dd_u I 149 (upd (I 149) (tn j0) a2)) L c s)) rfl hc h (by omega)) hc ?_
  refine dd_Rn.se (cf := (11, [.ref 148, .int a1, .int a2, .int a3], [], sM Ln (dd_u I 149 (upd (I 149) (tn (((187 : Int32) + ((5 : Int32) * a1)) + 0)) a2)) L c s)) ?_
  refine dd_Rn.sub 4 (pc := 17) (ls := [.ref 148, .int a1, .int a2, .int a3]) (st := [.int 2, .int a1, .ref 149]) (M := sM Ln (dd_u I 149 (upd (I 149) (tn (((187 : Int32) + ((5 : Int32) * a1)) + 0)) a2)) L c s) (x := m_X11_at) (as := [.int a1, .int 2]) (rest := [.ref 149]) rfl rfl rfl rfl ?_
  show dd_Rn (e + 15) m_X11_at (0, [.int a1, .int 2], [], sM Ln (dd_u I 149 (upd (I 149) (tn (((187 : Int32) + ((5 : Int32) * a1)) + 0)) a2)) L c s) _
  refine dd_Rn.retK 7 (pc := 9) (ls := [.int a1, .int 2]) (st := [.int (((187 : Int32) + ((5 : Int32) * a1)) + 2)]) (M := sM Ln (dd_u I 149 (upd (I 149) (tn (((187 : Int32) + ((5 : Int32) * a1)) + 0)) a2)) L c s) (o := (none, .int (((187 : Int32) + ((5 : Int32) * a1)) + 2), sM Ln (dd_u I 149 (upd (I 149) (tn (((187 : Int32) + ((5 : Int32) * a1)) + 0)) a2)) L c s)) rfl rfl (dd_Af.ret rfl ?_) (by omega)
  show dd_Rn (e + 16) m_X11_wouldHear (20, [.ref 148, .int a1, .int a2, .int a3], [.int (((187 : Int32) + ((5 : Int32) * a1)) + 2), .ref 149], sM Ln (dd_u I 149 (upd (I 149) (tn (((187 : Int32) + ((5 : Int32) * a1)) + 0)) a2)) L c s) _
  obtain ⟨hc, h⟩ := h
  refine dd_Rn.go 1 (cf' := (21, [.ref 148, .int a1, .int a2, .int a3], [.int a3, .int (((187 : Int32) + ((5 : Int32) * a1)) + 2), .ref 149], sM Ln (dd_u I 149 (upd (I 149) (tn (((187 : Int32) + ((5 : Int32) * a1)) + 0)) a2)) L c s)) rfl ?_ (by omega)
  refine dd_Rn.ci (fun j0 => (21, [.ref 148, .int a1, .int a2, .int a3], [.int a3, .int j0, .ref 149], sM Ln (dd_u I 149 (upd (I 149) (tn (((187 : Int32) + ((5 : Int32) * a1)) + 0)) a2)) L c s)) (fun j0 => (22, [.ref 148, .int a1, .int a2, .int a3], [], sM Ln (dd_u (dd_u I 149 (upd (I 149) (tn (((187 : Int32) + ((5 : Int32) * a1)) + 0)) a2)) 149 (upd (upd (I 149) (tn (((187 : Int32) + ((5 : Int32) * a1)) + 0)) a2) (tn j0) a3)) L c s)) (fun j0 => 0 ≤ j0 ∧ tn j0 < 2220) (((187 : Int32) + ((5 : Int32) * a1)) + 2) (fun j0 hc h => dd_Rn.chk 0 (c := 0 ≤ j0 ∧ tn j0 < 2220) (A := (22, [.ref 148, .int a1, .int a2, .int a3], [], sM Ln (dd_u (dd_u I 149 (upd (I 149) (tn (((187 : Int32) + ((5 : Int32) * a1)) + 0)) a2)) 149 (upd (upd (I 149) (tn (((187 : Int32) + ((5 : Int32) * a1)) + 0)) a2) (tn j0) a3)) L c s)) rfl hc h (by omega)) hc ?_
  refine dd_Rn.se (cf := (22, [.ref 148, .int a1, .int a2, .int a3], [], sM Ln (dd_u (dd_u I 149 (upd (I 149) (tn (((187 : Int32) + ((5 : Int32) * a1)) + 0)) a2)) 149 (upd (upd (I 149) (tn (((187 : Int32) + ((5 : Int32) * a1)) + 0)) a2) (tn (((187 : Int32) + ((5 : Int32) * a1)) + 2)) a3)) L c s)) ?_
  refine dd_Rn.cI 2 (pc := 24) (ls := [.ref 148, .int a1, .int a2, .int a3]) (st := [.int a1, .ref 148]) (x := m_X11_hears) (as := [.ref 148, .int a1]) (rest := []) rfl rfl rfl rfl h ?_
  intro x1 I1 L1 h
  show dd_Rn (e + 16) m_X11_wouldHear (27, [.ref 148, .int a1, .int a2, .int a3], [.int x1], sM Ln I1 L1 c s) _
  obtain ⟨hc, h⟩ := h
  exact dd_Rn.retB 0 (cf' := (27, [.ref 148, .int a1, .int a2, .int a3], [.int x1], sM Ln I1 L1 c s)) (v := x1) rfl rfl hc h (by omega)

theorem w_X11_ears_0 {Ln d c s : Nat} {I : Nat → Nat → Int32} {L : Nat → Nat → Int64} {Q : dd_O → Prop} {a1 : Int32} (hd : 28 ≤ d) (h : ((a1 < 0 → Q (none, .int 0, sM Ln (dd_u (dd_u (dd_u (dd_u (dd_u I 148 (upd (I 148) 0 0)) 148 (upd (upd (I 148) 0 0) 11 (I 148 9))) 148 (upd (upd (upd (I 148) 0 0) 11 (I 148 9)) 9 0)) 148 (upd (upd (upd (upd (I 148) 0 0) 11 (I 148 9)) 9 0) 10 0)) 148 (upd (upd (upd (upd (upd (I 148) 0 0) 11 (I 148 9)) 9 0) 10 0) 0 1)) L c s)) ∧ (¬ (a1 < 0) → (((I 149 1) - 1 < a1 → Q (none, .int 0, sM Ln (dd_u (dd_u (dd_u (dd_u (dd_u I 148 (upd (I 148) 0 0)) 148 (upd (upd (I 148) 0 0) 11 (I 148 9))) 148 (upd (upd (upd (I 148) 0 0) 11 (I 148 9)) 9 0)) 148 (upd (upd (upd (upd (I 148) 0 0) 11 (I 148 9)) 9 0) 10 0)) 148 (upd (upd (upd (upd (upd (I 148) 0 0) 11 (I 148 9)) 9 0) 10 0) 0 1)) L c s)) ∧ (¬ ((I 149 1) - 1 < a1) → dd_Ev (d - 1) m_X11_isHeardTape [.ref 148] (sM Ln (dd_u (dd_u (dd_u (dd_u I 148 (upd (I 148) 0 0)) 148 (upd (upd (I 148) 0 0) 11 (I 148 9))) 148 (upd (upd (upd (I 148) 0 0) 11 (I 148 9)) 9 0)) 148 (upd (upd (upd (upd (I 148) 0 0) 11 (I 148 9)) 9 0) 10 0)) L c s) (dd_RI Ln c s (fun x1 I1 L1 => ((x1 = 0 → Q (none, .int 0, sM Ln (dd_u I1 148 (upd (I1 148) 0 2)) L1 c s)) ∧ (¬ (x1 = 0) → dd_Ev (d - 1) m_X11_keepsAll [.ref 148] (sM Ln I1 L1 c s) (dd_RV Ln c s (fun I2 L2 => dd_Rn d m_X11_ears (47, [.ref 148, .int a1, .int 0, .int 0, .null, .null], [], sM Ln I2 L2 c s) Q))))))))))) : dd_Ev d m_X11_ears [.ref 148, .int a1] (sM Ln I L c s) Q := by
  obtain ⟨e, rfl⟩ : ∃ e, d = e + 16 := ⟨d - 16, by omega⟩
  show dd_Rn (e + 16) m_X11_ears (0, [.ref 148, .int a1, .null, .null, .null, .null], [], sM Ln I L c s) Q
  refine dd_Rn.sub 1 (pc := 1) (ls := [.ref 148, .int a1, .null, .null, .null, .null]) (st := [.ref 148]) (M := sM Ln I L c s) (x := m_X11_uses) (as := [.ref 148]) (rest := []) rfl rfl rfl rfl ?_
  show dd_Rn (e + 15) m_X11_uses (0, [.ref 148], [], sM Ln I L c s) _
  refine dd_Rn.retK 13 (pc := 23) (ls := [.ref 148]) (st := []) (M := sM Ln (dd_u (dd_u (dd_u (dd_u I 148 (upd (I 148) 0 0)) 148 (upd (upd (I 148) 0 0) 11 (I 148 9))) 148 (upd (upd (upd (I 148) 0 0) 11 (I 148 9)) 9 0)) 148 (upd (upd (upd (upd (I 148) 0 0) 11 (I 148 9)) 9 0) 10 0)) L c s) (o := (none, .null, sM Ln (dd_u (dd_u (dd_u (dd_u I 148 (upd (I 148) 0 0)) 148 (upd (upd (I 148) 0 0) 11 (I 148 9))) 148 (upd (upd (upd (I 148) 0 0) 11 (I 148 9)) 9 0)) 148 (upd (upd (upd (upd (I 148) 0 0) 11 (I 148 9)) 9 0) 10 0)) L c s)) rfl rfl (dd_Af.ret rfl ?_) (by omega)
  show dd_Rn (e + 16) m_X11_ears (4, [.ref 148, .int a1, .null, .null, .null, .null], [], sM Ln (dd_u (dd_u (dd_u (dd_u I 148 (upd (I 148) 0 0)) 148 (upd (upd (I 148) 0 0) 11 (I 148 9))) 148 (upd (upd (upd (I 148) 0 0) 11 (I 148 9)) 9 0)) 148 (upd (upd (upd (upd (I 148) 0 0) 11 (I 148 9)) 9 0) 10 0)) L c s) _
  refine dd_Rn.sub 3 (pc := 7) (ls := [.ref 148, .int a1, .null, .null, .null, .null]) (st := [.int a1, .ref 148, .ref 148]) (M := sM Ln (dd_u (dd_u (dd_u (dd_u I 148 (upd (I 148) 0 0)) 148 (upd (upd (I 148) 0 0) 11 (I 148 9))) 148 (upd (upd (upd (I 148) 0 0) 11 (I 148 9)) 9 0)) 148 (upd (upd (upd (upd (I 148) 0 0) 11 (I 148 9)) 9 0) 10 0)) L c s) (x := m_X11_noBoy) (as := [.ref 148, .int a1]) (rest := [.ref 148]) rfl rfl rfl rfl ?_
  show dd_Rn (e + 15) m_X11_noBoy (0, [.ref 148, .int a1], [], sM Ln (dd_u (dd_u (dd_u (dd_u I 148 (upd (I 148) 0 0)) 148 (upd (upd (I 148) 0 0) 11 (I 148 9))) 148 (upd (upd (upd (I 148) 0 0) 11 (I 148 9)) 9 0)) 148 (upd (upd (upd (upd (I 148) 0 0) 11 (I 148 9)) 9 0) 10 0)) L c s) _
  refine dd_Rn.sub 3 (pc := 3) (ls := [.ref 148, .int a1]) (st := [.ref 148, .int 0, .int a1]) (M := sM Ln (dd_u (dd_u (dd_u (dd_u I 148 (upd (I 148) 0 0)) 148 (upd (upd (I 148) 0 0) 11 (I 148 9))) 148 (upd (upd (upd (I 148) 0 0) 11 (I 148 9)) 9 0)) 148 (upd (upd (upd (upd (I 148) 0 0) 11 (I 148 9)) 9 0) 10 0)) L c s) (x := m_X11_boys) (as := [.ref 148]) (rest := [.int 0, .int a1]) rfl rfl rfl rfl ?_
  show dd_Rn (e + 14) m_X11_boys (0, [.ref 148], [], sM Ln (dd_u (dd_u (dd_u (dd_u I 148 (upd (I 148) 0 0)) 148 (upd (upd (I 148) 0 0) 11 (I 148 9))) 148 (upd (upd (upd (I 148) 0 0) 11 (I 148 9)) 9 0)) 148 (upd (upd (upd (upd (I 148) 0 0) 11 (I 148 9)) 9 0) 10 0)) L c s) _
  refine dd_Rn.retK 4 (pc := 6) (ls := [.ref 148]) (st := [.int (I 149 1)]) (M := sM Ln (dd_u (dd_u (dd_u (dd_u I 148 (upd (I 148) 0 0)) 148 (upd (upd (I 148) 0 0) 11 (I 148 9))) 148 (upd (upd (upd (I 148) 0 0) 11 (I 148 9)) 9 0)) 148 (upd (upd (upd (upd (I 148) 0 0) 11 (I 148 9)) 9 0) 10 0)) L c s) (o := (none, .int (I 149 1), sM Ln (dd_u (dd_u (dd_u (dd_u I 148 (upd (I 148) 0 0)) 148 (upd (upd (I 148) 0 0) 11 (I 148 9))) 148 (upd (upd (upd (I 148) 0 0) 11 (I 148 9)) 9 0)) 148 (upd (upd (upd (upd (I 148) 0 0) 11 (I 148 9)) 9 0) 10 0)) L c s)) rfl rfl (dd_Af.ret rfl ?_) (by omega)
  show dd_Rn (e + 15) m_X11_noBoy (6, [.ref 148, .int a1], [.int (I 149 1), .int 0, .int a1], sM Ln (dd_u (dd_u (dd_u (dd_u I 148 (upd (I 148) 0 0)) 148 (upd (upd (I 148) 0 0) 11 (I 148 9))) 148 (upd (upd (upd (I 148) 0 0) 11 (I 148 9)) 9 0)) 148 (upd (upd (upd (upd (I 148) 0 0) 11 (I 148 9)) 9 0) 10 0)) L c s) _
  refine dd_Rn.sub 2 (pc := 8) (ls := [.ref 148, .int a1]) (st := [.int ((I 149 1) - 1), .int 0, .int a1]) (M := sM Ln (dd_u (dd_u (dd_u (dd_u I 148 (upd (I 148) 0 0)) 148 (upd (upd (I 148) 0 0) 11 (I 148 9))) 148 (upd (upd (upd (I 148) 0 0) 11 (I 148 9)) 9 0)) 148 (upd (upd (upd (upd (I 148) 0 0) 11 (I 148 9)) 9 0) 10 0)) L c s) (x := m_X11_in) (as := [.int a1, .int 0, .int ((I 149 1) - 1)]) (rest := []) rfl rfl rfl rfl ?_
  show dd_Rn (e + 14) m_X11_in (0, [.int a1, .int 0, .int ((I 149 1) - 1)], [], sM Ln (dd_u (dd_u (dd_u (dd_u I 148 (upd (I 148) 0 0)) 148 (upd (upd (I 148) 0 0) 11 (I 148 9))) 148 (upd (upd (upd (I 148) 0 0) 11 (I 148 9)) 9 0)) 148 (upd (upd (upd (upd (I 148) 0 0) 11 (I 148 9)) 9 0) 10 0)) L c s) _
  refine dd_Rn.ite 2 (c := a1 < 0) (A := (14, [.int a1, .int 0, .int ((I 149 1) - 1)], [], sM Ln (dd_u (dd_u (dd_u (dd_u I 148 (upd (I 148) 0 0)) 148 (upd (upd (I 148) 0 0) 11 (I 148 9))) 148 (upd (upd (upd (I 148) 0 0) 11 (I 148 9)) 9 0)) 148 (upd (upd (upd (upd (I 148) 0 0) 11 (I 148 9)) 9 0) 10 0)) L c s)) (B := (5, [.int a1, .int 0, .int ((I 149 1) - 1)], [], sM Ln (dd_u (dd_u (dd_u (dd_u I 148 (upd (I 148) 0 0)) 148 (upd (upd (I 148) 0 0) 11 (I 148 9))) 148 (upd (upd (upd (I 148) 0 0) 11 (I 148 9)) 9 0)) 148 (upd (upd (upd (upd (I 148) 0 0) 11 (I 148 9)) 9 0) 10 0)) L c s)) rfl (fun hc => ?_) (fun hc => ?_) (by omega)
  · have h := h.1 hc
    refine dd_Rn.retK 1 (pc := 15) (ls := [.int a1, .int 0, .int ((I 149 1) - 1)]) (st := [.int 0]) (M := sM Ln (dd_u (dd_u (dd_u (dd_u I 148 (upd (I 148) 0 0)) 148 (upd (upd (I 148) 0 0) 11 (I 148 9))) 148 (upd (upd (upd (I 148) 0 0) 11 (I 148 9)) 9 0)) 148 (upd (upd (upd (upd (I 148) 0 0) 11 (I 148 9)) 9 0) 10 0)) L c s) (o := (none, .int 0, sM Ln (dd_u (dd_u (dd_u (dd_u I 148 (upd (I 148) 0 0)) 148 (upd (upd (I 148) 0 0) 11 (I 148 9))) 148 (upd (upd (upd (I 148) 0 0) 11 (I 148 9)) 9 0)) 148 (upd (upd (upd (upd (I 148) 0 0) 11 (I 148 9)) 9 0) 10 0)) L c s)) rfl rfl (dd_Af.ret rfl ?_) (by omega)
    show dd_Rn (e + 15) m_X11_noBoy (11, [.ref 148, .int a1], [.int 0], sM Ln (dd_u (dd_u (dd_u (dd_u I 148 (upd (I 148) 0 0)) 148 (upd (upd (I 148) 0 0) 11 (I 148 9))) 148 (upd (upd (upd (I 148) 0 0) 11 (I 148 9)) 9 0)) 148 (upd (upd (upd (upd (I 148) 0 0) 11 (I 148 9)) 9 0) 10 0)) L c s) _
    refine dd_Rn.retK 3 (pc := 19) (ls := [.ref 148, .int a1]) (st := [.int 1]) (M := sM Ln (dd_u (dd_u (dd_u (dd_u I 148 (upd (I 148) 0 0)) 148 (upd (upd (I 148) 0 0) 11 (I 148 9))) 148 (upd (upd (upd (I 148) 0 0) 11 (I 148 9)) 9 0)) 148 (upd (upd (upd (upd (I 148) 0 0) 11 (I 148 9)) 9 0) 10 0)) L c s) (o := (none, .int 1, sM Ln (dd_u (dd_u (dd_u (dd_u I 148 (upd (I 148) 0 0)) 148 (upd (upd (I 148) 0 0) 11 (I 148 9))) 148 (upd (upd (upd (I 148) 0 0) 11 (I 148 9)) 9 0)) 148 (upd (upd (upd (upd (I 148) 0 0) 11 (I 148 9)) 9 0) 10 0)) L c s)) rfl rfl (dd_Af.ret rfl ?_) (by omega)
    show dd_Rn (e + 16) m_X11_ears (10, [.ref 148, .int a1, .null, .null, .null, .null], [.int 1, .ref 148], sM Ln (dd_u (dd_u (dd_u (dd_u I 148 (upd (I 148) 0 0)) 148 (upd (upd (I 148) 0 0) 11 (I 148 9))) 148 (upd (upd (upd (I 148) 0 0) 11 (I 148 9)) 9 0)) 148 (upd (upd (upd (upd (I 148) 0 0) 11 (I 148 9)) 9 0) 10 0)) L c s) _
    refine dd_Rn.sub 1 (pc := 11) (ls := [.ref 148, .int a1, .null, .null, .null, .null]) (st := [.int 1, .int 1, .ref 148]) (M := sM Ln (dd_u (dd_u (dd_u (dd_u I 148 (upd (I 148) 0 0)) 148 (upd (upd (I 148) 0 0) 11 (I 148 9))) 148 (upd (upd (upd (I 148) 0 0) 11 (I 148 9)) 9 0)) 148 (upd (upd (upd (upd (I 148) 0 0) 11 (I 148 9)) 9 0) 10 0)) L c s) (x := m_X11_throwsIf) (as := [.ref 148, .int 1, .int 1]) (rest := []) rfl rfl rfl rfl ?_
    show dd_Rn (e + 15) m_X11_throwsIf (0, [.ref 148, .int 1, .int 1], [], sM Ln (dd_u (dd_u (dd_u (dd_u I 148 (upd (I 148) 0 0)) 148 (upd (upd (I 148) 0 0) 11 (I 148 9))) 148 (upd (upd (upd (I 148) 0 0) 11 (I 148 9)) 9 0)) 148 (upd (upd (upd (upd (I 148) 0 0) 11 (I 148 9)) 9 0) 10 0)) L c s) _
    refine dd_Rn.retK 6 (pc := 10) (ls := [.ref 148, .int 1, .int 1]) (st := [.int 1]) (M := sM Ln (dd_u (dd_u (dd_u (dd_u (dd_u I 148 (upd (I 148) 0 0)) 148 (upd (upd (I 148) 0 0) 11 (I 148 9))) 148 (upd (upd (upd (I 148) 0 0) 11 (I 148 9)) 9 0)) 148 (upd (upd (upd (upd (I 148) 0 0) 11 (I 148 9)) 9 0) 10 0)) 148 (upd (upd (upd (upd (upd (I 148) 0 0) 11 (I 148 9)) 9 0) 10 0) 0 1)) L c s) (o := (none, .int 1, sM Ln (dd_u (dd_u (dd_u (dd_u (dd_u I 148 (upd (I 148) 0 0)) 148 (upd (upd (I 148) 0 0) 11 (I 148 9))) 148 (upd (upd (upd (I 148) 0 0) 11 (I 148 9)) 9 0)) 148 (upd (upd (upd (upd (I 148) 0 0) 11 (I 148 9)) 9 0) 10 0)) 148 (upd (upd (upd (upd (upd (I 148) 0 0) 11 (I 148 9)) 9 0) 10 0) 0 1)) L c s)) rfl rfl (dd_Af.ret rfl ?_) (by omega)
    show dd_Rn (e + 16) m_X11_ears (14, [.ref 148, .int a1, .null, .null, .null, .null], [.int 1], sM Ln (dd_u (dd_u (dd_u (dd_u (dd_u I 148 (upd (I 148) 0 0)) 148 (upd (upd (I 148) 0 0) 11 (I 148 9))) 148 (upd (upd (upd (I 148) 0 0) 11 (I 148 9)) 9 0)) 148 (upd (upd (upd (upd (I 148) 0 0) 11 (I 148 9)) 9 0) 10 0)) 148 (upd (upd (upd (upd (upd (I 148) 0 0) 11 (I 148 9)) 9 0) 10 0) 0 1)) L c s) _
    exact dd_Rn.retK 2 (pc := 38) (ls := [.ref 148, .int a1, .null, .null, .null, .null]) (st := [.int 0]) (M := sM Ln (dd_u (dd_u (dd_u (dd_u (dd_u I 148 (upd (I 148) 0 0)) 148 (upd (upd (I 148) 0 0) 11 (I 148 9))) 148 (upd (upd (upd (I 148) 0 0) 11 (I 148 9)) 9 0)) 148 (upd (upd (upd (upd (I 148) 0 0) 11 (I 148 9)) 9 0) 10 0)) 148 (upd (upd (upd (upd (upd (I 148) 0 0) 11 (I 148 9)) 9 0) 10 0) 0 1)) L c s) (o := (none, .int 0, sM Ln (dd_u (dd_u (dd_u (dd_u (dd_u I 148 (upd (I 148) 0 0)) 148 (upd (upd (I 148) 0 0) 11 (I 148 9))) 148 (upd (upd (upd (I 148) 0 0) 11 (I 148 9)) 9 0)) 148 (upd (upd (upd (upd (I 148) 0 0) 11 (I 148 9)) 9 0) 10 0)) 148 (upd (upd (upd (upd (upd (I 148) 0 0) 11 (I 148 9)) 9 0) 10 0) 0 1)) L c s)) rfl rfl h (by omega)
  · have h := h.2 hc
    refine dd_Rn.ite 2 (c := (I 149 1) - 1 < a1) (A := (14, [.int a1, .int 0, .int ((I 149 1) - 1)], [], sM Ln (dd_u (dd_u (dd_u (dd_u I 148 (upd (I 148) 0 0)) 148 (upd (upd (I 148) 0 0) 11 (I 148 9))) 148 (upd (upd (upd (I 148) 0 0) 11 (I 148 9)) 9 0)) 148 (upd (upd (upd (upd (I 148) 0 0) 11 (I 148 9)) 9 0) 10 0)) L c s)) (B := (10, [.int a1, .int 0, .int ((I 149 1) - 1)], [], sM Ln (dd_u (dd_u (dd_u (dd_u I 148 (upd (I 148) 0 0)) 148 (upd (upd (I 148) 0 0) 11 (I 148 9))) 148 (upd (upd (upd (I 148) 0 0) 11 (I 148 9)) 9 0)) 148 (upd (upd (upd (upd (I 148) 0 0) 11 (I 148 9)) 9 0) 10 0)) L c s)) rfl (fun hc => ?_) (fun hc => ?_) (by omega)
    · have h := h.1 hc
      refine dd_Rn.retK 1 (pc := 15) (ls := [.int a1, .int 0, .int ((I 149 1) - 1)]) (st := [.int 0]) (M := sM Ln (dd_u (dd_u (dd_u (dd_u I 148 (upd (I 148) 0 0)) 148 (upd (upd (I 148) 0 0) 11 (I 148 9))) 148 (upd (upd (upd (I 148) 0 0) 11 (I 148 9)) 9 0)) 148 (upd (upd (upd (upd (I 148) 0 0) 11 (I 148 9)) 9 0) 10 0)) L c s) (o := (none, .int 0, sM Ln (dd_u (dd_u (dd_u (dd_u I 148 (upd (I 148) 0 0)) 148 (upd (upd (I 148) 0 0) 11 (I 148 9))) 148 (upd (upd (upd (I 148) 0 0) 11 (I 148 9)) 9 0)) 148 (upd (upd (upd (upd (I 148) 0 0) 11 (I 148 9)) 9 0) 10 0)) L c s)) rfl rfl (dd_Af.ret rfl ?_) (by omega)
      show dd_Rn (e + 15) m_X11_noBoy (11, [.ref 148, .int a1], [.int 0], sM Ln (dd_u (dd_u (dd_u (dd_u I 148 (upd (I 148) 0 0)) 148 (upd (upd (I 148) 0 0) 11 (I 148 9))) 148 (upd (upd (upd (I 148) 0 0) 11 (I 148 9)) 9 0)) 148 (upd (upd (upd (upd (I 148) 0 0) 11 (I 148 9)) 9 0) 10 0)) L c s) _
      refine dd_Rn.retK 3 (pc := 19) (ls := [.ref 148, .int a1]) (st := [.int 1]) (M := sM Ln (dd_u (dd_u (dd_u (dd_u I 148 (upd (I 148) 0 0)) 148 (upd (upd (I 148) 0 0) 11 (I 148 9))) 148 (upd (upd (upd (I 148) 0 0) 11 (I 148 9)) 9 0)) 148 (upd (upd (upd (upd (I 148) 0 0) 11 (I 148 9)) 9 0) 10 0)) L c s) (o := (none, .int 1, sM Ln (dd_u (dd_u (dd_u (dd_u I 148 (upd (I 148) 0 0)) 148 (upd (upd (I 148) 0 0) 11 (I 148 9))) 148 (upd (upd (upd (I 148) 0 0) 11 (I 148 9)) 9 0)) 148 (upd (upd (upd (upd (I 148) 0 0) 11 (I 148 9)) 9 0) 10 0)) L c s)) rfl rfl (dd_Af.ret rfl ?_) (by omega)
      show dd_Rn (e + 16) m_X11_ears (10, [.ref 148, .int a1, .null, .null, .null, .null], [.int 1, .ref 148], sM Ln (dd_u (dd_u (dd_u (dd_u I 148 (upd (I 148) 0 0)) 148 (upd (upd (I 148) 0 0) 11 (I 148 9))) 148 (upd (upd (upd (I 148) 0 0) 11 (I 148 9)) 9 0)) 148 (upd (upd (upd (upd (I 148) 0 0) 11 (I 148 9)) 9 0) 10 0)) L c s) _
      refine dd_Rn.sub 1 (pc := 11) (ls := [.ref 148, .int a1, .null, .null, .null, .null]) (st := [.int 1, .int 1, .ref 148]) (M := sM Ln (dd_u (dd_u (dd_u (dd_u I 148 (upd (I 148) 0 0)) 148 (upd (upd (I 148) 0 0) 11 (I 148 9))) 148 (upd (upd (upd (I 148) 0 0) 11 (I 148 9)) 9 0)) 148 (upd (upd (upd (upd (I 148) 0 0) 11 (I 148 9)) 9 0) 10 0)) L c s) (x := m_X11_throwsIf) (as := [.ref 148, .int 1, .int 1]) (rest := []) rfl rfl rfl rfl ?_
      show dd_Rn (e + 15) m_X11_throwsIf (0, [.ref 148, .int 1, .int 1], [], sM Ln (dd_u (dd_u (dd_u (dd_u I 148 (upd (I 148) 0 0)) 148 (upd (upd (I 148) 0 0) 11 (I 148 9))) 148 (upd (upd (upd (I 148) 0 0) 11 (I 148 9)) 9 0)) 148 (upd (upd (upd (upd (I 148) 0 0) 11 (I 148 9)) 9 0) 10 0)) L c s) _
      refine dd_Rn.retK 6 (pc := 10) (ls := [.ref 148, .int 1, .int 1]) (st := [.int 1]) (M := sM Ln (dd_u (dd_u (dd_u (dd_u (dd_u I 148 (upd (I 148) 0 0)) 148 (upd (upd (I 148) 0 0) 11 (I 148 9))) 148 (upd (upd (upd (I 148) 0 0) 11 (I 148 9)) 9 0)) 148 (upd (upd (upd (upd (I 148) 0 0) 11 (I 148 9)) 9 0) 10 0)) 148 (upd (upd (upd (upd (upd (I 148) 0 0) 11 (I 148 9)) 9 0) 10 0) 0 1)) L c s) (o := (none, .int 1, sM Ln (dd_u (dd_u (dd_u (dd_u (dd_u I 148 (upd (I 148) 0 0)) 148 (upd (upd (I 148) 0 0) 11 (I 148 9))) 148 (upd (upd (upd (I 148) 0 0) 11 (I 148 9)) 9 0)) 148 (upd (upd (upd (upd (I 148) 0 0) 11 (I 148 9)) 9 0) 10 0)) 148 (upd (upd (upd (upd (upd (I 148) 0 0) 11 (I 148 9)) 9 0) 10 0) 0 1)) L c s)) rfl rfl (dd_Af.ret rfl ?_) (by omega)
      show dd_Rn (e + 16) m_X11_ears (14, [.ref 148, .int a1, .null, .null, .null, .null], [.int 1], sM Ln (dd_u (dd_u (dd_u (dd_u (dd_u I 148 (upd (I 148) 0 0)) 148 (upd (upd (I 148) 0 0) 11 (I 148 9))) 148 (upd (upd (upd (I 148) 0 0) 11 (I 148 9)) 9 0)) 148 (upd (upd (upd (upd (I 148) 0 0) 11 (I 148 9)) 9 0) 10 0)) 148 (upd (upd (upd (upd (upd (I 148) 0 0) 11 (I 148 9)) 9 0) 10 0) 0 1)) L c s) _
      exact dd_Rn.retK 2 (pc := 38) (ls := [.ref 148, .int a1, .null, .null, .null, .null]) (st := [.int 0]) (M := sM Ln (dd_u (dd_u (dd_u (dd_u (dd_u I 148 (upd (I 148) 0 0)) 148 (upd (upd (I 148) 0 0) 11 (I 148 9))) 148 (upd (upd (upd (I 148) 0 0) 11 (I 148 9)) 9 0)) 148 (upd (upd (upd (upd (I 148) 0 0) 11 (I 148 9)) 9 0) 10 0)) 148 (upd (upd (upd (upd (upd (I 148) 0 0) 11 (I 148 9)) 9 0) 10 0) 0 1)) L c s) (o := (none, .int 0, sM Ln (dd_u (dd_u (dd_u (dd_u (dd_u I 148 (upd (I 148) 0 0)) 148 (upd (upd (I 148) 0 0) 11 (I 148 9))) 148 (upd (upd (upd (I 148) 0 0) 11 (I 148 9)) 9 0)) 148 (upd (upd (upd (upd (I 148) 0 0) 11 (I 148 9)) 9 0) 10 0)) 148 (upd (upd (upd (upd (upd (I 148) 0 0) 11 (I 148 9)) 9 0) 10 0) 0 1)) L c s)) rfl rfl h (by omega)
    · have h := h.2 hc
      refine dd_Rn.retK 2 (pc := 15) (ls := [.int a1, .int 0, .int ((I 149 1) - 1)]) (st := [.int 1]) (M := sM Ln (dd_u (dd_u (dd_u (dd_u I 148 (upd (I 148) 0 0)) 148 (upd (upd (I 148) 0 0) 11 (I 148 9))) 148 (upd (upd (upd (I 148) 0 0) 11 (I 148 9)) 9 0)) 148 (upd (upd (upd (upd (I 148) 0 0) 11 (I 148 9)) 9 0) 10 0)) L c s) (o := (none, .int 1, sM Ln (dd_u (dd_u (dd_u (dd_u I 148 (upd (I 148) 0 0)) 148 (upd (upd (I 148) 0 0) 11 (I 148 9))) 148 (upd (upd (upd (I 148) 0 0) 11 (I 148 9)) 9 0)) 148 (upd (upd (upd (upd (I 148) 0 0) 11 (I 148 9)) 9 0) 10 0)) L c s)) rfl rfl (dd_Af.ret rfl ?_) (by omega)
      show dd_Rn (e + 15) m_X11_noBoy (11, [.ref 148, .int a1], [.int 1], sM Ln (dd_u (dd_u (dd_u (dd_u I 148 (upd (I 148) 0 0)) 148 (upd (upd (I 148) 0 0) 11 (I 148 9))) 148 (upd (upd (upd (I 148) 0 0) 11 (I 148 9)) 9 0)) 148 (upd (upd (upd (upd (I 148) 0 0) 11 (I 148 9)) 9 0) 10 0)) L c s) _
      refine dd_Rn.retK 2 (pc := 19) (ls := [.ref 148, .int a1]) (st := [.int 0]) (M := sM Ln (dd_u (dd_u (dd_u (dd_u I 148 (upd (I 148) 0 0)) 148 (upd (upd (I 148) 0 0) 11 (I 148 9))) 148 (upd (upd (upd (I 148) 0 0) 11 (I 148 9)) 9 0)) 148 (upd (upd (upd (upd (I 148) 0 0) 11 (I 148 9)) 9 0) 10 0)) L c s) (o := (none, .int 0, sM Ln (dd_u (dd_u (dd_u (dd_u I 148 (upd (I 148) 0 0)) 148 (upd (upd (I 148) 0 0) 11 (I 148 9))) 148 (upd (upd (upd (I 148) 0 0) 11 (I 148 9)) 9 0)) 148 (upd (upd (upd (upd (I 148) 0 0) 11 (I 148 9)) 9 0) 10 0)) L c s)) rfl rfl (dd_Af.ret rfl ?_) (by omega)
      show dd_Rn (e + 16) m_X11_ears (10, [.ref 148, .int a1, .null, .null, .null, .null], [.int 0, .ref 148], sM Ln (dd_u (dd_u (dd_u (dd_u I 148 (upd (I 148) 0 0)) 148 (upd (upd (I 148) 0 0) 11 (I 148 9))) 148 (upd (upd (upd (I 148) 0 0) 11 (I 148 9)) 9 0)) 148 (upd (upd (upd (upd (I 148) 0 0) 11 (I 148 9)) 9 0) 10 0)) L c s) _
      refine dd_Rn.sub 1 (pc := 11) (ls := [.ref 148, .int a1, .null, .null, .null, .null]) (st := [.int 1, .int 0, .ref 148]) (M := sM Ln (dd_u (dd_u (dd_u (dd_u I 148 (upd (I 148) 0 0)) 148 (upd (upd (I 148) 0 0) 11 (I 148 9))) 148 (upd (upd (upd (I 148) 0 0) 11 (I 148 9)) 9 0)) 148 (upd (upd (upd (upd (I 148) 0 0) 11 (I 148 9)) 9 0) 10 0)) L c s) (x := m_X11_throwsIf) (as := [.ref 148, .int 0, .int 1]) (rest := []) rfl rfl rfl rfl ?_
      show dd_Rn (e + 15) m_X11_throwsIf (0, [.ref 148, .int 0, .int 1], [], sM Ln (dd_u (dd_u (dd_u (dd_u I 148 (upd (I 148) 0 0)) 148 (upd (upd (I 148) 0 0) 11 (I 148 9))) 148 (upd (upd (upd (I 148) 0 0) 11 (I 148 9)) 9 0)) 148 (upd (upd (upd (upd (I 148) 0 0) 11 (I 148 9)) 9 0) 10 0)) L c s) _
      refine dd_Rn.retK 3 (pc := 10) (ls := [.ref 148, .int 0, .int 1]) (st := [.int 0]) (M := sM Ln (dd_u (dd_u (dd_u (dd_u I 148 (upd (I 148) 0 0)) 148 (upd (upd (I 148) 0 0) 11 (I 148 9))) 148 (upd (upd (upd (I 148) 0 0) 11 (I 148 9)) 9 0)) 148 (upd (upd (upd (upd (I 148) 0 0) 11 (I 148 9)) 9 0) 10 0)) L c s) (o := (none, .int 0, sM Ln (dd_u (dd_u (dd_u (dd_u I 148 (upd (I 148) 0 0)) 148 (upd (upd (I 148) 0 0) 11 (I 148 9))) 148 (upd (upd (upd (I 148) 0 0) 11 (I 148 9)) 9 0)) 148 (upd (upd (upd (upd (I 148) 0 0) 11 (I 148 9)) 9 0) 10 0)) L c s)) rfl rfl (dd_Af.ret rfl ?_) (by omega)
      show dd_Rn (e + 16) m_X11_ears (14, [.ref 148, .int a1, .null, .null, .null, .null], [.int 0], sM Ln (dd_u (dd_u (dd_u (dd_u I 148 (upd (I 148) 0 0)) 148 (upd (upd (I 148) 0 0) 11 (I 148 9))) 148 (upd (upd (upd (I 148) 0 0) 11 (I 148 9)) 9 0)) 148 (upd (upd (upd (upd (I 148) 0 0) 11 (I 148 9)) 9 0) 10 0)) L c s) _
      refine dd_Rn.cI 3 (pc := 19) (ls := [.ref 148, .int a1, .null, .null, .null, .null]) (st := [.ref 148, .ref 148]) (x := m_X11_isHeardTape) (as := [.ref 148]) (rest := [.ref 148]) rfl rfl rfl rfl h ?_
      intro x1 I1 L1 h
      show dd_Rn (e + 16) m_X11_ears (22, [.ref 148, .int a1, .null, .null, .null, .null], [.int x1, .ref 148], sM Ln I1 L1 c s) _
      refine dd_Rn.ite 0 (c := x1 = 0) (A := (25, [.ref 148, .int a1, .null, .null, .null, .null], [.ref 148], sM Ln I1 L1 c s)) (B := (29, [.ref 148, .int a1, .null, .null, .null, .null], [.ref 148], sM Ln I1 L1 c s)) rfl (fun hc => ?_) (fun hc => ?_) (by omega)
      · have h := h.1 hc
        refine dd_Rn.sub 3 (pc := 31) (ls := [.ref 148, .int a1, .null, .null, .null, .null]) (st := [.int 2, .int 1, .ref 148]) (M := sM Ln I1 L1 c s) (x := m_X11_throwsIf) (as := [.ref 148, .int 1, .int 2]) (rest := []) rfl rfl rfl rfl ?_
        show dd_Rn (e + 15) m_X11_throwsIf (0, [.ref 148, .int 1, .int 2], [], sM Ln I1 L1 c s) _
        refine dd_Rn.retK 6 (pc := 10) (ls := [.ref 148, .int 1, .int 2]) (st := [.int 1]) (M := sM Ln (dd_u I1 148 (upd (I1 148) 0 2)) L1 c s) (o := (none, .int 1, sM Ln (dd_u I1 148 (upd (I1 148) 0 2)) L1 c s)) rfl rfl (dd_Af.ret rfl ?_) (by omega)
        show dd_Rn (e + 16) m_X11_ears (34, [.ref 148, .int a1, .null, .null, .null, .null], [.int 1], sM Ln (dd_u I1 148 (upd (I1 148) 0 2)) L1 c s) _
        exact dd_Rn.retK 2 (pc := 38) (ls := [.ref 148, .int a1, .null, .null, .null, .null]) (st := [.int 0]) (M := sM Ln (dd_u I1 148 (upd (I1 148) 0 2)) L1 c s) (o := (none, .int 0, sM Ln (dd_u I1 148 (upd (I1 148) 0 2)) L1 c s)) rfl rfl h (by omega)
      · have h := h.2 hc
        refine dd_Rn.sub 2 (pc := 31) (ls := [.ref 148, .int a1, .null, .null, .null, .null]) (st := [.int 2, .int 0, .ref 148]) (M := sM Ln I1 L1 c s) (x := m_X11_throwsIf) (as := [.ref 148, .int 0, .int 2]) (rest := []) rfl rfl rfl rfl ?_
        show dd_Rn (e + 15) m_X11_throwsIf (0, [.ref 148, .int 0, .int 2], [], sM Ln I1 L1 c s) _
        refine dd_Rn.retK 3 (pc := 10) (ls := [.ref 148, .int 0, .int 2]) (st := [.int 0]) (M := sM Ln I1 L1 c s) (o := (none, .int 0, sM Ln I1 L1 c s)) rfl rfl (dd_Af.ret rfl ?_) (by omega)
        show dd_Rn (e + 16) m_X11_ears (34, [.ref 148, .int a1, .null, .null, .null, .null], [.int 0], sM Ln I1 L1 c s) _
        refine dd_Rn.cV 4 (pc := 42) (ls := [.ref 148, .int a1, .int 0, .null, .null, .null]) (st := [.ref 148]) (x := m_X11_keepsAll) (as := [.ref 148]) (rest := []) rfl rfl rfl rfl h ?_
        intro I2 L2 h
        show dd_Rn (e + 16) m_X11_ears (45, [.ref 148, .int a1, .int 0, .null, .null, .null], [], sM Ln I2 L2 c s) _
        exact dd_Rn.go 2 (cf' := (47, [.ref 148, .int a1, .int 0, .int 0, .null, .null], [], sM Ln I2 L2 c s)) rfl h (by omega)

theorem w_X11_ears_47 {Ln d c s : Nat} {I : Nat → Nat → Int32} {L : Nat → Nat → Int64} {Q : dd_O → Prop} {a1 a2 a3 : Int32} {a4 a5 : Value} (hd : 28 ≤ d) (h : (((16 : Int32) ≤ a3 → dd_Ev (d - 1) m_X11_bringsBack [.ref 148] (sM Ln I L c s) (dd_RV Ln c s (fun I1 L1 => Q (none, .int a2, sM Ln I1 L1 c s)))) ∧ (¬ ((16 : Int32) ≤ a3) → dd_Rn d m_X11_ears (59, [.ref 148, .int a1, .int a2, .int a3, .int 1, .int 0], [], sM Ln I L c s) Q))) : dd_Rn d m_X11_ears (47, [.ref 148, .int a1, .int a2, .int a3, a4, a5], [], sM Ln I L c s) Q := by
  obtain ⟨e, rfl⟩ : ∃ e, d = e + 16 := ⟨d - 16, by omega⟩
  refine dd_Rn.ite 2 (c := (16 : Int32) ≤ a3) (A := (141, [.ref 148, .int a1, .int a2, .int a3, a4, a5], [], sM Ln I L c s)) (B := (53, [.ref 148, .int a1, .int a2, .int a3, a4, a5], [], sM Ln I L c s)) rfl (fun hc => ?_) (fun hc => ?_) (by omega)
  · have h := h.1 hc
    refine dd_Rn.cV 1 (pc := 142) (ls := [.ref 148, .int a1, .int a2, .int a3, a4, a5]) (st := [.ref 148]) (x := m_X11_bringsBack) (as := [.ref 148]) (rest := []) rfl rfl rfl rfl h ?_
    intro I1 L1 h
    show dd_Rn (e + 16) m_X11_ears (145, [.ref 148, .int a1, .int a2, .int a3, a4, a5], [], sM Ln I1 L1 c s) _
    exact dd_Rn.retK 1 (pc := 146) (ls := [.ref 148, .int a1, .int a2, .int a3, a4, a5]) (st := [.int a2]) (M := sM Ln I1 L1 c s) (o := (none, .int a2, sM Ln I1 L1 c s)) rfl rfl h (by omega)
  · have h := h.2 hc
    exact dd_Rn.go 4 (cf' := (59, [.ref 148, .int a1, .int a2, .int a3, .int 1, .int 0], [], sM Ln I L c s)) rfl h (by omega)

theorem w_X11_ears_59 {Ln d c s : Nat} {I : Nat → Nat → Int32} {L : Nat → Nat → Int64} {Q : dd_O → Prop} {a1 a2 a3 a4 a5 : Int32} (hd : 28 ≤ d) (h : ((I 148 11 ≤ a5 → ((a4 = 0 → dd_Rn d m_X11_ears (47, [.ref 148, .int a1, .int (a2 ||| 0), .int (a3 + 1), .int a4, .int a5], [], sM Ln I L c s) Q) ∧ (¬ (a4 = 0) → dd_Rn d m_X11_ears (47, [.ref 148, .int a1, .int (a2 ||| ((1 : Int32) <<< (a3 &&& 31))), .int (a3 + 1), .int a4, .int a5], [], sM Ln I L c s) Q))) ∧ (¬ (I 148 11 ≤ a5) → ((a4 = 0 → dd_Rn d m_X11_ears (59, [.ref 148, .int a1, .int a2, .int a3, .int 0, .int (a5 + 2)], [], sM Ln I L c s) Q) ∧ (¬ (a4 = 0) → ((0 ≤ a5 ∧ tn a5 < 400) ∧ dd_Ev (d - 1) m_X11_wouldHear [.ref 148, .int a1, .int (I 154 (tn a5)), .int a3] (sM Ln I L c s) (dd_RI Ln c s (fun x1 I1 L1 => ((0 ≤ a5 + 1 ∧ tn (a5 + 1) < 400) ∧ ((I1 154 (tn (a5 + 1)) = 1 → ((x1 = 1 → dd_Rn d m_X11_ears (59, [.ref 148, .int a1, .int a2, .int a3, .int 1, .int (a5 + 2)], [], sM Ln I1 L1 c s) Q) ∧ (¬ (x1 = 1) → dd_Rn d m_X11_ears (59, [.ref 148, .int a1, .int a2, .int a3, .int 0, .int (a5 + 2)], [], sM Ln I1 L1 c s) Q))) ∧ (¬ (I1 154 (tn (a5 + 1)) = 1) → ((x1 = 0 → dd_Rn d m_X11_ears (59, [.ref 148, .int a1, .int a2, .int a3, .int 1, .int (a5 + 2)], [], sM Ln I1 L1 c s) Q) ∧ (¬ (x1 = 0) → dd_Rn d m_X11_ears (59, [.ref 148, .int a1, .int a2, .int a3, .int 0, .int (a5 + 2)], [], sM Ln I1 L1 c s) Q))))))))))))) : dd_Rn d m_X11_ears (59, [.ref 148, .int a1, .int a2, .int a3, .int a4, .int a5], [], sM Ln I L c s) Q := by
  obtain ⟨e, rfl⟩ : ∃ e, d = e + 16 := ⟨d - 16, by omega⟩
  refine dd_Rn.ite 3 (c := I 148 11 ≤ a5) (A := (120, [.ref 148, .int a1, .int a2, .int a3, .int a4, .int a5], [], sM Ln I L c s)) (B := (68, [.ref 148, .int a1, .int a2, .int a3, .int a4, .int a5], [], sM Ln I L c s)) rfl (fun hc => ?_) (fun hc => ?_) (by omega)
  · have h := h.1 hc
    refine dd_Rn.ite 2 (c := a4 = 0) (A := (132, [.ref 148, .int a1, .int a2, .int a3, .int a4, .int a5], [.int a2], sM Ln I L c s)) (B := (126, [.ref 148, .int a1, .int a2, .int a3, .int a4, .int a5], [.int a2], sM Ln I L c s)) rfl (fun hc => ?_) (fun hc => ?_) (by omega)
    · have h := h.1 hc
      exact dd_Rn.go 5 (cf' := (47, [.ref 148, .int a1, .int (a2 ||| 0), .int (a3 + 1), .int a4, .int a5], [], sM Ln I L c s)) rfl h (by omega)
    · have h := h.2 hc
      exact dd_Rn.go 8 (cf' := (47, [.ref 148, .int a1, .int (a2 ||| ((1 : Int32) <<< (a3 &&& 31))), .int (a3 + 1), .int a4, .int a5], [], sM Ln I L c s)) rfl h (by omega)
  · have h := h.2 hc
    refine dd_Rn.ite 1 (c := a4 = 0) (A := (111, [.ref 148, .int a1, .int a2, .int a3, .int a4, .int a5], [], sM Ln I L c s)) (B := (73, [.ref 148, .int a1, .int a2, .int a3, .int a4, .int a5], [], sM Ln I L c s)) rfl (fun hc => ?_) (fun hc => ?_) (by omega)
    · have h := h.1 hc
      exact dd_Rn.go 4 (cf' := (59, [.ref 148, .int a1, .int a2, .int a3, .int 0, .int (a5 + 2)], [], sM Ln I L c s)) rfl h (by omega)
    · have h := h.2 hc
      obtain ⟨hc, h⟩ := h
      refine dd_Rn.chk 5 (c := 0 ≤ a5 ∧ tn a5 < 400) (A := (82, [.ref 148, .int a1, .int a2, .int a3, .int a4, .int a5], [.int (I 154 (tn a5)), .int a1, .ref 148], sM Ln I L c s)) rfl hc ?_ (by omega)
      refine dd_Rn.cI 1 (pc := 83) (ls := [.ref 148, .int a1, .int a2, .int a3, .int a4, .int a5]) (st := [.int a3, .int (I 154 (tn a5)), .int a1, .ref 148]) (x := m_X11_wouldHear) (as := [.ref 148, .int a1, .int (I 154 (tn a5)), .int a3]) (rest := []) rfl rfl rfl rfl h ?_
      intro x1 I1 L1 h
      show dd_Rn (e + 16) m_X11_ears (86, [.ref 148, .int a1, .int a2, .int a3, .int a4, .int a5], [.int x1], sM Ln I1 L1 c s) _
      obtain ⟨hc, h⟩ := h
      refine dd_Rn.go 5 (cf' := (94, [.ref 148, .int a1, .int a2, .int a3, .int a4, .int a5], [.int (a5 + 1), .ref 154, .int x1], sM Ln I1 L1 c s)) rfl ?_ (by omega)
      refine dd_Rn.ci (fun j0 => (94, [.ref 148, .int a1, .int a2, .int a3, .int a4, .int a5], [.int j0, .ref 154, .int x1], sM Ln I1 L1 c s)) (fun j0 => (95, [.ref 148, .int a1, .int a2, .int a3, .int a4, .int a5], [.int (I1 154 (tn j0)), .int x1], sM Ln I1 L1 c s)) (fun j0 => 0 ≤ j0 ∧ tn j0 < 400) (a5 + 1) (fun j0 hc h => dd_Rn.chk 0 (c := 0 ≤ j0 ∧ tn j0 < 400) (A := (95, [.ref 148, .int a1, .int a2, .int a3, .int a4, .int a5], [.int (I1 154 (tn j0)), .int x1], sM Ln I1 L1 c s)) rfl hc h (by omega)) hc ?_
      refine dd_Rn.se (cf := (95, [.ref 148, .int a1, .int a2, .int a3, .int a4, .int a5], [.int (I1 154 (tn (a5 + 1))), .int x1], sM Ln I1 L1 c s)) ?_
      refine dd_Rn.ite 1 (c := I1 154 (tn (a5 + 1)) = 1) (A := (99, [.ref 148, .int a1, .int a2, .int a3, .int a4, .int a5], [.int x1], sM Ln I1 L1 c s)) (B := (103, [.ref 148, .int a1, .int a2, .int a3, .int a4, .int a5], [.int x1], sM Ln I1 L1 c s)) rfl (fun hc => ?_) (fun hc => ?_) (by omega)
      · have h := h.1 hc
        refine dd_Rn.ite 2 (c := x1 = 1) (A := (107, [.ref 148, .int a1, .int a2, .int a3, .int a4, .int a5], [], sM Ln I1 L1 c s)) (B := (111, [.ref 148, .int a1, .int a2, .int a3, .int a4, .int a5], [], sM Ln I1 L1 c s)) rfl (fun hc => ?_) (fun hc => ?_) (by omega)
        · have h := h.1 hc
          exact dd_Rn.go 5 (cf' := (59, [.ref 148, .int a1, .int a2, .int a3, .int 1, .int (a5 + 2)], [], sM Ln I1 L1 c s)) rfl h (by omega)
        · have h := h.2 hc
          exact dd_Rn.go 4 (cf' := (59, [.ref 148, .int a1, .int a2, .int a3, .int 0, .int (a5 + 2)], [], sM Ln I1 L1 c s)) rfl h (by omega)
      · have h := h.2 hc
        refine dd_Rn.ite 1 (c := x1 = 0) (A := (107, [.ref 148, .int a1, .int a2, .int a3, .int a4, .int a5], [], sM Ln I1 L1 c s)) (B := (111, [.ref 148, .int a1, .int a2, .int a3, .int a4, .int a5], [], sM Ln I1 L1 c s)) rfl (fun hc => ?_) (fun hc => ?_) (by omega)
        · have h := h.1 hc
          exact dd_Rn.go 5 (cf' := (59, [.ref 148, .int a1, .int a2, .int a3, .int 1, .int (a5 + 2)], [], sM Ln I1 L1 c s)) rfl h (by omega)
        · have h := h.2 hc
          exact dd_Rn.go 4 (cf' := (59, [.ref 148, .int a1, .int a2, .int a3, .int 0, .int (a5 + 2)], [], sM Ln I1 L1 c s)) rfl h (by omega)

theorem w_X11_unlikeBy_0 {Ln d c s : Nat} {I : Nat → Nat → Int32} {L : Nat → Nat → Int64} {Q : dd_O → Prop} {a1 a2 a3 : Int32} (hd : 28 ≤ d) (h : dd_Rn d m_X11_unlikeBy (6, [.ref 148, .int a1, .int a2, .int a3, .int 0, .int 0], [], sM Ln I L c s) Q) : dd_Ev d m_X11_unlikeBy [.ref 148, .int a1, .int a2, .int a3] (sM Ln I L c s) Q := by
  obtain ⟨e, rfl⟩ : ∃ e, d = e + 16 := ⟨d - 16, by omega⟩
  show dd_Rn (e + 16) m_X11_unlikeBy (0, [.ref 148, .int a1, .int a2, .int a3, .null, .null], [], sM Ln I L c s) Q
  exact dd_Rn.go 4 (cf' := (6, [.ref 148, .int a1, .int a2, .int a3, .int 0, .int 0], [], sM Ln I L c s)) rfl h (by omega)

theorem w_X11_unlikeBy_6 {Ln d c s : Nat} {I : Nat → Nat → Int32} {L : Nat → Nat → Int64} {Q : dd_O → Prop} {a1 a2 a3 a4 a5 : Int32} (hd : 28 ≤ d) (h : (((8 : Int32) ≤ a5 → ((a4 = 0 ∨ a4 = 1) ∧ Q (none, .int a4, sM Ln I L c s))) ∧ (¬ ((8 : Int32) ≤ a5) → ((a4 = 0 → (((a1 >>> (a5 &&& 31) : Int32) &&& (1 : Int32) = 1 → ((0 ≤ ((139 : Int32) + ((8 : Int32) * a2)) + a5 ∧ tn (((139 : Int32) + ((8 : Int32) * a2)) + a5) < 2220) ∧ ((0 ≤ ((139 : Int32) + ((8 : Int32) * a3)) + a5 ∧ tn (((139 : Int32) + ((8 : Int32) * a3)) + a5) < 2220) ∧ ((I 149 (tn (((139 : Int32) + ((8 : Int32) * a2)) + a5)) = I 149 (tn (((139 : Int32) + ((8 : Int32) * a3)) + a5)) → dd_Rn d m_X11_unlikeBy (6, [.ref 148, .int a1, .int a2, .int a3, .int 0, .int (a5 + 1)], [], sM Ln I L c s) Q) ∧ (¬ (I 149 (tn (((139 : Int32) + ((8 : Int32) * a2)) + a5)) = I 149 (tn (((139 : Int32) + ((8 : Int32) * a3)) + a5))) → dd_Rn d m_X11_unlikeBy (6, [.ref 148, .int a1, .int a2, .int a3, .int 1, .int (a5 + 1)], [], sM Ln I L c s) Q))))) ∧ (¬ ((a1 >>> (a5 &&& 31) : Int32) &&& (1 : Int32) = 1) → dd_Rn d m_X11_unlikeBy (6, [.ref 148, .int a1, .int a2, .int a3, .int 0, .int (a5 + 1)], [], sM Ln I L c s) Q))) ∧ (¬ (a4 = 0) → dd_Rn d m_X11_unlikeBy (6, [.ref 148, .int a1, .int a2, .int a3, .int 1, .int (a5 + 1)], [], sM Ln I L c s) Q))))) : dd_Rn d m_X11_unlikeBy (6, [.ref 148, .int a1, .int a2, .int a3, .int a4, .int a5], [], sM Ln I L c s) Q := by
  obtain ⟨e, rfl⟩ : ∃ e, d = e + 16 := ⟨d - 16, by omega⟩
  refine dd_Rn.ite 2 (c := (8 : Int32) ≤ a5) (A := (65, [.ref 148, .int a1, .int a2, .int a3, .int a4, .int a5], [], sM Ln I L c s)) (B := (13, [.ref 148, .int a1, .int a2, .int a3, .int a4, .int a5], [], sM Ln I L c s)) rfl (fun hc => ?_) (fun hc => ?_) (by omega)
  · have h := h.1 hc
    obtain ⟨hc, h⟩ := h
    exact dd_Rn.retB 1 (cf' := (67, [.ref 148, .int a1, .int a2, .int a3, .int a4, .int a5], [.int a4], sM Ln I L c s)) (v := a4) rfl rfl hc h (by omega)
  · have h := h.2 hc
    refine dd_Rn.ite 1 (c := a4 = 0) (A := (18, [.ref 148, .int a1, .int a2, .int a3, .int a4, .int a5], [], sM Ln I L c s)) (B := (52, [.ref 148, .int a1, .int a2, .int a3, .int a4, .int a5], [], sM Ln I L c s)) rfl (fun hc => ?_) (fun hc => ?_) (by omega)
    · have h := h.1 hc
      refine dd_Rn.sub 2 (pc := 21) (ls := [.ref 148, .int a1, .int a2, .int a3, .int a4, .int a5]) (st := [.int a5, .int a1]) (M := sM Ln I L c s) (x := m_X11_has) (as := [.int a1, .int a5]) (rest := []) rfl rfl rfl rfl ?_
      show dd_Rn (e + 15) m_X11_has (0, [.int a1, .int a5], [], sM Ln I L c s) _
      refine dd_Rn.ite 6 (c := (a1 >>> (a5 &&& 31) : Int32) &&& (1 : Int32) = 1) (A := (9, [.int a1, .int a5], [], sM Ln I L c s)) (B := (13, [.int a1, .int a5], [], sM Ln I L c s)) rfl (fun hc => ?_) (fun hc => ?_) (by omega)
      · have h := h.1 hc
        refine dd_Rn.retK 2 (pc := 14) (ls := [.int a1, .int a5]) (st := [.int 1]) (M := sM Ln I L c s) (o := (none, .int 1, sM Ln I L c s)) rfl rfl (dd_Af.ret rfl ?_) (by omega)
        show dd_Rn (e + 16) m_X11_unlikeBy (24, [.ref 148, .int a1, .int a2, .int a3, .int a4, .int a5], [.int 1], sM Ln I L c s) _
        refine dd_Rn.sub 5 (pc := 34) (ls := [.ref 148, .int a1, .int a2, .int a3, .int a4, .int a5]) (st := [.int a5, .int a2, .ref 149]) (M := sM Ln I L c s) (x := m_X11_noteAt) (as := [.int a2, .int a5]) (rest := [.ref 149]) rfl rfl rfl rfl ?_
        show dd_Rn (e + 15) m_X11_noteAt (0, [.int a2, .int a5], [], sM Ln I L c s) _
        refine dd_Rn.retK 7 (pc := 10) (ls := [.int a2, .int a5]) (st := [.int (((139 : Int32) + ((8 : Int32) * a2)) + a5)]) (M := sM Ln I L c s) (o := (none, .int (((139 : Int32) + ((8 : Int32) * a2)) + a5), sM Ln I L c s)) rfl rfl (dd_Af.ret rfl ?_) (by omega)
        show dd_Rn (e + 16) m_X11_unlikeBy (37, [.ref 148, .int a1, .int a2, .int a3, .int a4, .int a5], [.int (((139 : Int32) + ((8 : Int32) * a2)) + a5), .ref 149], sM Ln I L c s) _
        obtain ⟨hc, h⟩ := h
        refine dd_Rn.ci (fun j0 => (37, [.ref 148, .int a1, .int a2, .int a3, .int a4, .int a5], [.int j0, .ref 149], sM Ln I L c s)) (fun j0 => (38, [.ref 148, .int a1, .int a2, .int a3, .int a4, .int a5], [.int (I 149 (tn j0))], sM Ln I L c s)) (fun j0 => 0 ≤ j0 ∧ tn j0 < 2220) (((139 : Int32) + ((8 : Int32) * a2)) + a5) (fun j0 hc h => dd_Rn.chk 0 (c := 0 ≤ j0 ∧ tn j0 < 2220) (A := (38, [.ref 148, .int a1, .int a2, .int a3, .int a4, .int a5], [.int (I 149 (tn j0))], sM Ln I L c s)) rfl hc h (by omega)) hc ?_
        refine dd_Rn.se (cf := (38, [.ref 148, .int a1, .int a2, .int a3, .int a4, .int a5], [.int (I 149 (tn (((139 : Int32) + ((8 : Int32) * a2)) + a5)))], sM Ln I L c s)) ?_
        refine dd_Rn.sub 4 (pc := 45) (ls := [.ref 148, .int a1, .int a2, .int a3, .int a4, .int a5]) (st := [.int a5, .int a3, .ref 149, .int (I 149 (tn (((139 : Int32) + ((8 : Int32) * a2)) + a5)))]) (M := sM Ln I L c s) (x := m_X11_noteAt) (as := [.int a3, .int a5]) (rest := [.ref 149, .int (I 149 (tn (((139 : Int32) + ((8 : Int32) * a2)) + a5)))]) rfl rfl rfl rfl ?_
        show dd_Rn (e + 15) m_X11_noteAt (0, [.int a3, .int a5], [], sM Ln I L c s) _
        refine dd_Rn.retK 7 (pc := 10) (ls := [.int a3, .int a5]) (st := [.int (((139 : Int32) + ((8 : Int32) * a3)) + a5)]) (M := sM Ln I L c s) (o := (none, .int (((139 : Int32) + ((8 : Int32) * a3)) + a5), sM Ln I L c s)) rfl rfl (dd_Af.ret rfl ?_) (by omega)
        show dd_Rn (e + 16) m_X11_unlikeBy (48, [.ref 148, .int a1, .int a2, .int a3, .int a4, .int a5], [.int (((139 : Int32) + ((8 : Int32) * a3)) + a5), .ref 149, .int (I 149 (tn (((139 : Int32) + ((8 : Int32) * a2)) + a5)))], sM Ln I L c s) _
        obtain ⟨hc, h⟩ := h
        refine dd_Rn.ci (fun j0 => (48, [.ref 148, .int a1, .int a2, .int a3, .int a4, .int a5], [.int j0, .ref 149, .int (I 149 (tn (((139 : Int32) + ((8 : Int32) * a2)) + a5)))], sM Ln I L c s)) (fun j0 => (49, [.ref 148, .int a1, .int a2, .int a3, .int a4, .int a5], [.int (I 149 (tn j0)), .int (I 149 (tn (((139 : Int32) + ((8 : Int32) * a2)) + a5)))], sM Ln I L c s)) (fun j0 => 0 ≤ j0 ∧ tn j0 < 2220) (((139 : Int32) + ((8 : Int32) * a3)) + a5) (fun j0 hc h => dd_Rn.chk 0 (c := 0 ≤ j0 ∧ tn j0 < 2220) (A := (49, [.ref 148, .int a1, .int a2, .int a3, .int a4, .int a5], [.int (I 149 (tn j0)), .int (I 149 (tn (((139 : Int32) + ((8 : Int32) * a2)) + a5)))], sM Ln I L c s)) rfl hc h (by omega)) hc ?_
        refine dd_Rn.se (cf := (49, [.ref 148, .int a1, .int a2, .int a3, .int a4, .int a5], [.int (I 149 (tn (((139 : Int32) + ((8 : Int32) * a3)) + a5))), .int (I 149 (tn (((139 : Int32) + ((8 : Int32) * a2)) + a5)))], sM Ln I L c s)) ?_
        refine dd_Rn.ite 0 (c := I 149 (tn (((139 : Int32) + ((8 : Int32) * a2)) + a5)) = I 149 (tn (((139 : Int32) + ((8 : Int32) * a3)) + a5))) (A := (56, [.ref 148, .int a1, .int a2, .int a3, .int a4, .int a5], [], sM Ln I L c s)) (B := (52, [.ref 148, .int a1, .int a2, .int a3, .int a4, .int a5], [], sM Ln I L c s)) rfl (fun hc => ?_) (fun hc => ?_) (by omega)
        · have h := h.1 hc
          exact dd_Rn.go 4 (cf' := (6, [.ref 148, .int a1, .int a2, .int a3, .int 0, .int (a5 + 1)], [], sM Ln I L c s)) rfl h (by omega)
        · have h := h.2 hc
          exact dd_Rn.go 5 (cf' := (6, [.ref 148, .int a1, .int a2, .int a3, .int 1, .int (a5 + 1)], [], sM Ln I L c s)) rfl h (by omega)
      · have h := h.2 hc
        refine dd_Rn.retK 1 (pc := 14) (ls := [.int a1, .int a5]) (st := [.int 0]) (M := sM Ln I L c s) (o := (none, .int 0, sM Ln I L c s)) rfl rfl (dd_Af.ret rfl ?_) (by omega)
        show dd_Rn (e + 16) m_X11_unlikeBy (24, [.ref 148, .int a1, .int a2, .int a3, .int a4, .int a5], [.int 0], sM Ln I L c s) _
        exact dd_Rn.go 5 (cf' := (6, [.ref 148, .int a1, .int a2, .int a3, .int 0, .int (a5 + 1)], [], sM Ln I L c s)) rfl h (by omega)
    · have h := h.2 hc
      exact dd_Rn.go 5 (cf' := (6, [.ref 148, .int a1, .int a2, .int a3, .int 1, .int (a5 + 1)], [], sM Ln I L c s)) rfl h (by omega)

theorem w_X11_allUnlike_0 {Ln d c s : Nat} {I : Nat → Nat → Int32} {L : Nat → Nat → Int64} {Q : dd_O → Prop} {a1 : Int32} (hd : 28 ≤ d) (h : dd_Rn d m_X11_allUnlike (4, [.ref 148, .int a1, .int 1, .int 0, .null], [], sM Ln I L c s) Q) : dd_Ev d m_X11_allUnlike [.ref 148, .int a1] (sM Ln I L c s) Q := by
  obtain ⟨e, rfl⟩ : ∃ e, d = e + 16 := ⟨d - 16, by omega⟩
  show dd_Rn (e + 16) m_X11_allUnlike (0, [.ref 148, .int a1, .null, .null, .null], [], sM Ln I L c s) Q
  exact dd_Rn.go 4 (cf' := (4, [.ref 148, .int a1, .int 1, .int 0, .null], [], sM Ln I L c s)) rfl h (by omega)

theorem w_X11_allUnlike_4 {Ln d c s : Nat} {I : Nat → Nat → Int32} {L : Nat → Nat → Int64} {Q : dd_O → Prop} {a1 a2 a3 : Int32} {a4 : Value} (hd : 28 ≤ d) (h : ((I 149 0 ≤ a3 → ((a2 = 0 ∨ a2 = 1) ∧ Q (none, .int a2, sM Ln I L c s))) ∧ (¬ (I 149 0 ≤ a3) → dd_Rn d m_X11_allUnlike (15, [.ref 148, .int a1, .int a2, .int a3, .int 0], [], sM Ln I L c s) Q))) : dd_Rn d m_X11_allUnlike (4, [.ref 148, .int a1, .int a2, .int a3, a4], [], sM Ln I L c s) Q := by
  obtain ⟨e, rfl⟩ : ∃ e, d = e + 16 := ⟨d - 16, by omega⟩
  refine dd_Rn.sub 2 (pc := 6) (ls := [.ref 148, .int a1, .int a2, .int a3, a4]) (st := [.ref 148, .int a3]) (M := sM Ln I L c s) (x := m_X11_parts) (as := [.ref 148]) (rest := [.int a3]) rfl rfl rfl rfl ?_
  show dd_Rn (e + 15) m_X11_parts (0, [.ref 148], [], sM Ln I L c s) _
  refine dd_Rn.retK 4 (pc := 6) (ls := [.ref 148]) (st := [.int (I 149 0)]) (M := sM Ln I L c s) (o := (none, .int (I 149 0), sM Ln I L c s)) rfl rfl (dd_Af.ret rfl ?_) (by omega)
  show dd_Rn (e + 16) m_X11_allUnlike (9, [.ref 148, .int a1, .int a2, .int a3, a4], [.int (I 149 0), .int a3], sM Ln I L c s) _
  refine dd_Rn.ite 0 (c := I 149 0 ≤ a3) (A := (54, [.ref 148, .int a1, .int a2, .int a3, a4], [], sM Ln I L c s)) (B := (12, [.ref 148, .int a1, .int a2, .int a3, a4], [], sM Ln I L c s)) rfl (fun hc => ?_) (fun hc => ?_) (by omega)
  · have h := h.1 hc
    obtain ⟨hc, h⟩ := h
    exact dd_Rn.retB 1 (cf' := (55, [.ref 148, .int a1, .int a2, .int a3, a4], [.int a2], sM Ln I L c s)) (v := a2) rfl rfl hc h (by omega)
  · have h := h.2 hc
    exact dd_Rn.go 2 (cf' := (15, [.ref 148, .int a1, .int a2, .int a3, .int 0], [], sM Ln I L c s)) rfl h (by omega)

theorem w_X11_allUnlike_15 {Ln d c s : Nat} {I : Nat → Nat → Int32} {L : Nat → Nat → Int64} {Q : dd_O → Prop} {a1 a2 a3 a4 : Int32} (hd : 28 ≤ d) (h : ((a3 ≤ a4 → dd_Rn d m_X11_allUnlike (4, [.ref 148, .int a1, .int a2, .int (a3 + 1), .int a4], [], sM Ln I L c s) Q) ∧ (¬ (a3 ≤ a4) → ((a2 = 0 → dd_Rn d m_X11_allUnlike (15, [.ref 148, .int a1, .int 0, .int a3, .int (a4 + 1)], [], sM Ln I L c s) Q) ∧ (¬ (a2 = 0) → dd_Ev (d - 1) m_X11_unlikeBy [.ref 148, .int a1, .int a3, .int a4] (sM Ln I L c s) (dd_RI Ln c s (fun x1 I1 L1 => ((x1 = 0 → dd_Rn d m_X11_allUnlike (15, [.ref 148, .int a1, .int 0, .int a3, .int (a4 + 1)], [], sM Ln I1 L1 c s) Q) ∧ (¬ (x1 = 0) → dd_Rn d m_X11_allUnlike (15, [.ref 148, .int a1, .int 1, .int a3, .int (a4 + 1)], [], sM Ln I1 L1 c s) Q))))))))) : dd_Rn d m_X11_allUnlike (15, [.ref 148, .int a1, .int a2, .int a3, .int a4], [], sM Ln I L c s) Q := by
  obtain ⟨e, rfl⟩ : ∃ e, d = e + 16 := ⟨d - 16, by omega⟩
  refine dd_Rn.ite 2 (c := a3 ≤ a4) (A := (48, [.ref 148, .int a1, .int a2, .int a3, .int a4], [], sM Ln I L c s)) (B := (21, [.ref 148, .int a1, .int a2, .int a3, .int a4], [], sM Ln I L c s)) rfl (fun hc => ?_) (fun hc => ?_) (by omega)
  · have h := h.1 hc
    exact dd_Rn.go 2 (cf' := (4, [.ref 148, .int a1, .int a2, .int (a3 + 1), .int a4], [], sM Ln I L c s)) rfl h (by omega)
  · have h := h.2 hc
    refine dd_Rn.ite 1 (c := a2 = 0) (A := (40, [.ref 148, .int a1, .int a2, .int a3, .int a4], [], sM Ln I L c s)) (B := (25, [.ref 148, .int a1, .int a2, .int a3, .int a4], [], sM Ln I L c s)) rfl (fun hc => ?_) (fun hc => ?_) (by omega)
    · have h := h.1 hc
      exact dd_Rn.go 4 (cf' := (15, [.ref 148, .int a1, .int 0, .int a3, .int (a4 + 1)], [], sM Ln I L c s)) rfl h (by omega)
    · have h := h.2 hc
      refine dd_Rn.cI 4 (pc := 30) (ls := [.ref 148, .int a1, .int a2, .int a3, .int a4]) (st := [.int a4, .int a3, .int a1, .ref 148]) (x := m_X11_unlikeBy) (as := [.ref 148, .int a1, .int a3, .int a4]) (rest := []) rfl rfl rfl rfl h ?_
      intro x1 I1 L1 h
      show dd_Rn (e + 16) m_X11_allUnlike (33, [.ref 148, .int a1, .int a2, .int a3, .int a4], [.int x1], sM Ln I1 L1 c s) _
      refine dd_Rn.ite 0 (c := x1 = 0) (A := (40, [.ref 148, .int a1, .int a2, .int a3, .int a4], [], sM Ln I1 L1 c s)) (B := (36, [.ref 148, .int a1, .int a2, .int a3, .int a4], [], sM Ln I1 L1 c s)) rfl (fun hc => ?_) (fun hc => ?_) (by omega)
      · have h := h.1 hc
        exact dd_Rn.go 4 (cf' := (15, [.ref 148, .int a1, .int 0, .int a3, .int (a4 + 1)], [], sM Ln I1 L1 c s)) rfl h (by omega)
      · have h := h.2 hc
        exact dd_Rn.go 5 (cf' := (15, [.ref 148, .int a1, .int 1, .int a3, .int (a4 + 1)], [], sM Ln I1 L1 c s)) rfl h (by omega)

theorem w_X11_code_0 {Ln d c s : Nat} {I : Nat → Nat → Int32} {L : Nat → Nat → Int64} {Q : dd_O → Prop} (hd : 28 ≤ d) (h : dd_Rn d m_X11_code (13, [.ref 148, .int (-1), .int 1000000, .int 0], [], sM Ln (dd_u I 148 (upd (I 148) 0 0)) L c s) Q) : dd_Ev d m_X11_code [.ref 148] (sM Ln I L c s) Q := by
  obtain ⟨e, rfl⟩ : ∃ e, d = e + 16 := ⟨d - 16, by omega⟩
  show dd_Rn (e + 16) m_X11_code (0, [.ref 148, .null, .null, .null], [], sM Ln I L c s) Q
  exact dd_Rn.go 9 (cf' := (13, [.ref 148, .int (-1), .int 1000000, .int 0], [], sM Ln (dd_u I 148 (upd (I 148) 0 0)) L c s)) rfl h (by omega)

theorem w_X11_code_13 {Ln d c s : Nat} {I : Nat → Nat → Int32} {L : Nat → Nat → Int64} {Q : dd_O → Prop} {a1 a2 a3 : Int32} (hd : 28 ≤ d) (h : (((256 : Int32) ≤ a3 → Q (none, .int a1, sM Ln I L c s)) ∧ (¬ ((256 : Int32) ≤ a3) → dd_Ev (d - 1) m_J6_bitCount_0f7a4 [.int a3] (sM Ln I L c s) (dd_RI Ln c s (fun x1 I1 L1 => ((a2 ≤ x1 → dd_Rn d m_X11_code (13, [.ref 148, .int a1, .int a2, .int (a3 + 1)], [], sM Ln I1 L1 c s) Q) ∧ (¬ (a2 ≤ x1) → dd_Ev (d - 1) m_X11_allUnlike [.ref 148, .int a3] (sM Ln I1 L1 c s) (dd_RI Ln c s (fun x2 I2 L2 => ((x2 = 0 → dd_Rn d m_X11_code (13, [.ref 148, .int a1, .int a2, .int (a3 + 1)], [], sM Ln I2 L2 c s) Q) ∧ (¬ (x2 = 0) → dd_Ev (d - 1) m_J6_bitCount_0f7a4 [.int a3] (sM Ln I2 L2 c s) (dd_RI Ln c s (fun x3 I3 L3 => dd_Rn d m_X11_code (13, [.ref 148, .int a3, .int x3, .int (a3 + 1)], [], sM Ln I3 L3 c s) Q))))))))))))) : dd_Rn d m_X11_code (13, [.ref 148, .int a1, .int a2, .int a3], [], sM Ln I L c s) Q := by
  obtain ⟨e, rfl⟩ : ∃ e, d = e + 16 := ⟨d - 16, by omega⟩
  refine dd_Rn.ite 2 (c := (256 : Int32) ≤ a3) (A := (52, [.ref 148, .int a1, .int a2, .int a3], [], sM Ln I L c s)) (B := (20, [.ref 148, .int a1, .int a2, .int a3], [], sM Ln I L c s)) rfl (fun hc => ?_) (fun hc => ?_) (by omega)
  · have h := h.1 hc
    exact dd_Rn.retK 1 (pc := 53) (ls := [.ref 148, .int a1, .int a2, .int a3]) (st := [.int a1]) (M := sM Ln I L c s) (o := (none, .int a1, sM Ln I L c s)) rfl rfl h (by omega)
  · have h := h.2 hc
    refine dd_Rn.cI 1 (pc := 21) (ls := [.ref 148, .int a1, .int a2, .int a3]) (st := [.int a3]) (x := m_J6_bitCount_0f7a4) (as := [.int a3]) (rest := []) rfl rfl rfl rfl h ?_
    intro x1 I1 L1 h
    show dd_Rn (e + 16) m_X11_code (24, [.ref 148, .int a1, .int a2, .int a3], [.int x1], sM Ln I1 L1 c s) _
    refine dd_Rn.ite 1 (c := a2 ≤ x1) (A := (46, [.ref 148, .int a1, .int a2, .int a3], [], sM Ln I1 L1 c s)) (B := (28, [.ref 148, .int a1, .int a2, .int a3], [], sM Ln I1 L1 c s)) rfl (fun hc => ?_) (fun hc => ?_) (by omega)
    · have h := h.1 hc
      exact dd_Rn.go 2 (cf' := (13, [.ref 148, .int a1, .int a2, .int (a3 + 1)], [], sM Ln I1 L1 c s)) rfl h (by omega)
    · have h := h.2 hc
      refine dd_Rn.cI 2 (pc := 30) (ls := [.ref 148, .int a1, .int a2, .int a3]) (st := [.int a3, .ref 148]) (x := m_X11_allUnlike) (as := [.ref 148, .int a3]) (rest := []) rfl rfl rfl rfl h ?_
      intro x2 I2 L2 h
      show dd_Rn (e + 16) m_X11_code (33, [.ref 148, .int a1, .int a2, .int a3], [.int x2], sM Ln I2 L2 c s) _
      refine dd_Rn.ite 0 (c := x2 = 0) (A := (36, [.ref 148, .int a1, .int a2, .int a3], [], sM Ln I2 L2 c s)) (B := (39, [.ref 148, .int a1, .int a2, .int a3], [], sM Ln I2 L2 c s)) rfl (fun hc => ?_) (fun hc => ?_) (by omega)
      · have h := h.1 hc
        exact dd_Rn.go 3 (cf' := (13, [.ref 148, .int a1, .int a2, .int (a3 + 1)], [], sM Ln I2 L2 c s)) rfl h (by omega)
      · have h := h.2 hc
        refine dd_Rn.cI 3 (pc := 42) (ls := [.ref 148, .int a3, .int a2, .int a3]) (st := [.int a3]) (x := m_J6_bitCount_0f7a4) (as := [.int a3]) (rest := []) rfl rfl rfl rfl h ?_
        intro x3 I3 L3 h
        show dd_Rn (e + 16) m_X11_code (45, [.ref 148, .int a3, .int a2, .int a3], [.int x3], sM Ln I3 L3 c s) _
        exact dd_Rn.go 3 (cf' := (13, [.ref 148, .int a3, .int x3, .int (a3 + 1)], [], sM Ln I3 L3 c s)) rfl h (by omega)

theorem w_X11_isShifted_0 {Ln d c s : Nat} {I : Nat → Nat → Int32} {L : Nat → Nat → Int64} {Q : dd_O → Prop} {a1 a2 a3 : Int32} (hd : 28 ≤ d) (h : dd_Rn d m_X11_isShifted (6, [.ref 148, .int a1, .int a2, .int a3, .int 1, .int 0], [], sM Ln I L c s) Q) : dd_Ev d m_X11_isShifted [.ref 148, .int a1, .int a2, .int a3] (sM Ln I L c s) Q := by
  obtain ⟨e, rfl⟩ : ∃ e, d = e + 16 := ⟨d - 16, by omega⟩
  show dd_Rn (e + 16) m_X11_isShifted (0, [.ref 148, .int a1, .int a2, .int a3, .null, .null], [], sM Ln I L c s) Q
  exact dd_Rn.go 4 (cf' := (6, [.ref 148, .int a1, .int a2, .int a3, .int 1, .int 0], [], sM Ln I L c s)) rfl h (by omega)

theorem w_X11_isShifted_6 {Ln d c s : Nat} {I : Nat → Nat → Int32} {L : Nat → Nat → Int64} {Q : dd_O → Prop} {a1 a2 a3 a4 a5 : Int32} (hd : 28 ≤ d) (h : (((8 : Int32) ≤ a5 → ((a4 = 0 ∨ a4 = 1) ∧ Q (none, .int a4, sM Ln I L c s))) ∧ (¬ ((8 : Int32) ≤ a5) → ((a4 = 0 → dd_Rn d m_X11_isShifted (6, [.ref 148, .int a1, .int a2, .int a3, .int 0, .int (a5 + 1)], [], sM Ln I L c s) Q) ∧ (¬ (a4 = 0) → ((0 ≤ ((139 : Int32) + ((8 : Int32) * a2)) + a5 ∧ tn (((139 : Int32) + ((8 : Int32) * a2)) + a5) < 2220) ∧ ((0 ≤ ((139 : Int32) + ((8 : Int32) * a1)) + ((a5 + a3) - (a5 + a3) / 8 * 8) ∧ tn (((139 : Int32) + ((8 : Int32) * a1)) + ((a5 + a3) - (a5 + a3) / 8 * 8)) < 2220) ∧ ((I 149 (tn (((139 : Int32) + ((8 : Int32) * a2)) + a5)) = I 149 (tn (((139 : Int32) + ((8 : Int32) * a1)) + ((a5 + a3) - (a5 + a3) / 8 * 8))) → dd_Rn d m_X11_isShifted (6, [.ref 148, .int a1, .int a2, .int a3, .int 1, .int (a5 + 1)], [], sM Ln I L c s) Q) ∧ (¬ (I 149 (tn (((139 : Int32) + ((8 : Int32) * a2)) + a5)) = I 149 (tn (((139 : Int32) + ((8 : Int32) * a1)) + ((a5 + a3) - (a5 + a3) / 8 * 8)))) → dd_Rn d m_X11_isShifted (6, [.ref 148, .int a1, .int a2, .int a3, .int 0, .int (a5 + 1)], [], sM Ln I L c s) Q))))))))) : dd_Rn d m_X11_isShifted (6, [.ref 148, .int a1, .int a2, .int a3, .int a4, .int a5], [], sM Ln I L c s) Q := by
  obtain ⟨e, rfl⟩ : ∃ e, d = e + 16 := ⟨d - 16, by omega⟩
  refine dd_Rn.ite 2 (c := (8 : Int32) ≤ a5) (A := (61, [.ref 148, .int a1, .int a2, .int a3, .int a4, .int a5], [], sM Ln I L c s)) (B := (13, [.ref 148, .int a1, .int a2, .int a3, .int a4, .int a5], [], sM Ln I L c s)) rfl (fun hc => ?_) (fun hc => ?_) (by omega)
  · have h := h.1 hc
    obtain ⟨hc, h⟩ := h
    exact dd_Rn.retB 1 (cf' := (63, [.ref 148, .int a1, .int a2, .int a3, .int a4, .int a5], [.int a4], sM Ln I L c s)) (v := a4) rfl rfl hc h (by omega)
  · have h := h.2 hc
    refine dd_Rn.ite 1 (c := a4 = 0) (A := (52, [.ref 148, .int a1, .int a2, .int a3, .int a4, .int a5], [], sM Ln I L c s)) (B := (18, [.ref 148, .int a1, .int a2, .int a3, .int a4, .int a5], [], sM Ln I L c s)) rfl (fun hc => ?_) (fun hc => ?_) (by omega)
    · have h := h.1 hc
      exact dd_Rn.go 4 (cf' := (6, [.ref 148, .int a1, .int a2, .int a3, .int 0, .int (a5 + 1)], [], sM Ln I L c s)) rfl h (by omega)
    · have h := h.2 hc
      refine dd_Rn.sub 4 (pc := 25) (ls := [.ref 148, .int a1, .int a2, .int a3, .int a4, .int a5]) (st := [.int a5, .int a2, .ref 149]) (M := sM Ln I L c s) (x := m_X11_noteAt) (as := [.int a2, .int a5]) (rest := [.ref 149]) rfl rfl rfl rfl ?_
      show dd_Rn (e + 15) m_X11_noteAt (0, [.int a2, .int a5], [], sM Ln I L c s) _
      refine dd_Rn.retK 7 (pc := 10) (ls := [.int a2, .int a5]) (st := [.int (((139 : Int32) + ((8 : Int32) * a2)) + a5)]) (M := sM Ln I L c s) (o := (none, .int (((139 : Int32) + ((8 : Int32) * a2)) + a5), sM Ln I L c s)) rfl rfl (dd_Af.ret rfl ?_) (by omega)
      show dd_Rn (e + 16) m_X11_isShifted (28, [.ref 148, .int a1, .int a2, .int a3, .int a4, .int a5], [.int (((139 : Int32) + ((8 : Int32) * a2)) + a5), .ref 149], sM Ln I L c s) _
      obtain ⟨hc, h⟩ := h
      refine dd_Rn.ci (fun j0 => (28, [.ref 148, .int a1, .int a2, .int a3, .int a4, .int a5], [.int j0, .ref 149], sM Ln I L c s)) (fun j0 => (29, [.ref 148, .int a1, .int a2, .int a3, .int a4, .int a5], [.int (I 149 (tn j0))], sM Ln I L c s)) (fun j0 => 0 ≤ j0 ∧ tn j0 < 2220) (((139 : Int32) + ((8 : Int32) * a2)) + a5) (fun j0 hc h => dd_Rn.chk 0 (c := 0 ≤ j0 ∧ tn j0 < 2220) (A := (29, [.ref 148, .int a1, .int a2, .int a3, .int a4, .int a5], [.int (I 149 (tn j0))], sM Ln I L c s)) rfl hc h (by omega)) hc ?_
      refine dd_Rn.se (cf := (29, [.ref 148, .int a1, .int a2, .int a3, .int a4, .int a5], [.int (I 149 (tn (((139 : Int32) + ((8 : Int32) * a2)) + a5)))], sM Ln I L c s)) ?_
      refine dd_Rn.sub 8 (pc := 41) (ls := [.ref 148, .int a1, .int a2, .int a3, .int a4, .int a5]) (st := [.int ((a5 + a3) - (a5 + a3) / 8 * 8), .int a1, .ref 149, .int (I 149 (tn (((139 : Int32) + ((8 : Int32) * a2)) + a5)))]) (M := sM Ln I L c s) (x := m_X11_noteAt) (as := [.int a1, .int ((a5 + a3) - (a5 + a3) / 8 * 8)]) (rest := [.ref 149, .int (I 149 (tn (((139 : Int32) + ((8 : Int32) * a2)) + a5)))]) rfl rfl rfl rfl ?_
      show dd_Rn (e + 15) m_X11_noteAt (0, [.int a1, .int ((a5 + a3) - (a5 + a3) / 8 * 8)], [], sM Ln I L c s) _
      refine dd_Rn.retK 7 (pc := 10) (ls := [.int a1, .int ((a5 + a3) - (a5 + a3) / 8 * 8)]) (st := [.int (((139 : Int32) + ((8 : Int32) * a1)) + ((a5 + a3) - (a5 + a3) / 8 * 8))]) (M := sM Ln I L c s) (o := (none, .int (((139 : Int32) + ((8 : Int32) * a1)) + ((a5 + a3) - (a5 + a3) / 8 * 8)), sM Ln I L c s)) rfl rfl (dd_Af.ret rfl ?_) (by omega)
      show dd_Rn (e + 16) m_X11_isShifted (44, [.ref 148, .int a1, .int a2, .int a3, .int a4, .int a5], [.int (((139 : Int32) + ((8 : Int32) * a1)) + ((a5 + a3) - (a5 + a3) / 8 * 8)), .ref 149, .int (I 149 (tn (((139 : Int32) + ((8 : Int32) * a2)) + a5)))], sM Ln I L c s) _
      obtain ⟨hc, h⟩ := h
      refine dd_Rn.ci (fun j0 => (44, [.ref 148, .int a1, .int a2, .int a3, .int a4, .int a5], [.int j0, .ref 149, .int (I 149 (tn (((139 : Int32) + ((8 : Int32) * a2)) + a5)))], sM Ln I L c s)) (fun j0 => (45, [.ref 148, .int a1, .int a2, .int a3, .int a4, .int a5], [.int (I 149 (tn j0)), .int (I 149 (tn (((139 : Int32) + ((8 : Int32) * a2)) + a5)))], sM Ln I L c s)) (fun j0 => 0 ≤ j0 ∧ tn j0 < 2220) (((139 : Int32) + ((8 : Int32) * a1)) + ((a5 + a3) - (a5 + a3) / 8 * 8)) (fun j0 hc h => dd_Rn.chk 0 (c := 0 ≤ j0 ∧ tn j0 < 2220) (A := (45, [.ref 148, .int a1, .int a2, .int a3, .int a4, .int a5], [.int (I 149 (tn j0)), .int (I 149 (tn (((139 : Int32) + ((8 : Int32) * a2)) + a5)))], sM Ln I L c s)) rfl hc h (by omega)) hc ?_
      refine dd_Rn.se (cf := (45, [.ref 148, .int a1, .int a2, .int a3, .int a4, .int a5], [.int (I 149 (tn (((139 : Int32) + ((8 : Int32) * a1)) + ((a5 + a3) - (a5 + a3) / 8 * 8)))), .int (I 149 (tn (((139 : Int32) + ((8 : Int32) * a2)) + a5)))], sM Ln I L c s)) ?_
      refine dd_Rn.ite 0 (c := I 149 (tn (((139 : Int32) + ((8 : Int32) * a2)) + a5)) = I 149 (tn (((139 : Int32) + ((8 : Int32) * a1)) + ((a5 + a3) - (a5 + a3) / 8 * 8)))) (A := (48, [.ref 148, .int a1, .int a2, .int a3, .int a4, .int a5], [], sM Ln I L c s)) (B := (52, [.ref 148, .int a1, .int a2, .int a3, .int a4, .int a5], [], sM Ln I L c s)) rfl (fun hc => ?_) (fun hc => ?_) (by omega)
      · have h := h.1 hc
        exact dd_Rn.go 5 (cf' := (6, [.ref 148, .int a1, .int a2, .int a3, .int 1, .int (a5 + 1)], [], sM Ln I L c s)) rfl h (by omega)
      · have h := h.2 hc
        exact dd_Rn.go 4 (cf' := (6, [.ref 148, .int a1, .int a2, .int a3, .int 0, .int (a5 + 1)], [], sM Ln I L c s)) rfl h (by omega)

theorem w_X11_shifted_0 {Ln d c s : Nat} {I : Nat → Nat → Int32} {L : Nat → Nat → Int64} {Q : dd_O → Prop} {a1 a2 : Int32} (hd : 28 ≤ d) (h : ((a1 < 0 → Q (none, .int 0, sM Ln (dd_u (dd_u I 148 (upd (I 148) 0 0)) 148 (upd (upd (I 148) 0 0) 0 1)) L c s)) ∧ (¬ (a1 < 0) → (((I 149 0) - 1 < a1 → Q (none, .int 0, sM Ln (dd_u (dd_u I 148 (upd (I 148) 0 0)) 148 (upd (upd (I 148) 0 0) 0 1)) L c s)) ∧ (¬ ((I 149 0) - 1 < a1) → ((a2 < 0 → Q (none, .int 0, sM Ln (dd_u (dd_u I 148 (upd (I 148) 0 0)) 148 (upd (upd (I 148) 0 0) 0 1)) L c s)) ∧ (¬ (a2 < 0) → (((I 149 0) - 1 < a2 → Q (none, .int 0, sM Ln (dd_u (dd_u I 148 (upd (I 148) 0 0)) 148 (upd (upd (I 148) 0 0) 0 1)) L c s)) ∧ (¬ ((I 149 0) - 1 < a2) → ((a1 = a2 → Q (none, .int 0, sM Ln (dd_u (dd_u I 148 (upd (I 148) 0 0)) 148 (upd (upd (I 148) 0 0) 0 2)) L c s)) ∧ (¬ (a1 = a2) → dd_Rn d m_X11_shifted (56, [.ref 148, .int a1, .int a2, .int 1], [], sM Ln (dd_u I 148 (upd (I 148) 0 0)) L c s) Q))))))))))) : dd_Ev d m_X11_shifted [.ref 148, .int a1, .int a2] (sM Ln I L c s) Q := by
  obtain ⟨e, rfl⟩ : ∃ e, d = e + 16 := ⟨d - 16, by omega⟩
  show dd_Rn (e + 16) m_X11_shifted (0, [.ref 148, .int a1, .int a2, .null], [], sM Ln I L c s) Q
  refine dd_Rn.sub 6 (pc := 8) (ls := [.ref 148, .int a1, .int a2, .null]) (st := [.int a1, .ref 148, .ref 148]) (M := sM Ln (dd_u I 148 (upd (I 148) 0 0)) L c s) (x := m_X11_noPart) (as := [.ref 148, .int a1]) (rest := [.ref 148]) rfl rfl rfl rfl ?_
  show dd_Rn (e + 15) m_X11_noPart (0, [.ref 148, .int a1], [], sM Ln (dd_u I 148 (upd (I 148) 0 0)) L c s) _
  refine dd_Rn.sub 3 (pc := 3) (ls := [.ref 148, .int a1]) (st := [.ref 148, .int 0, .int a1]) (M := sM Ln (dd_u I 148 (upd (I 148) 0 0)) L c s) (x := m_X11_parts) (as := [.ref 148]) (rest := [.int 0, .int a1]) rfl rfl rfl rfl ?_
  show dd_Rn (e + 14) m_X11_parts (0, [.ref 148], [], sM Ln (dd_u I 148 (upd (I 148) 0 0)) L c s) _
  refine dd_Rn.retK 4 (pc := 6) (ls := [.ref 148]) (st := [.int (I 149 0)]) (M := sM Ln (dd_u I 148 (upd (I 148) 0 0)) L c s) (o := (none, .int (I 149 0), sM Ln (dd_u I 148 (upd (I 148) 0 0)) L c s)) rfl rfl (dd_Af.ret rfl ?_) (by omega)
  show dd_Rn (e + 15) m_X11_noPart (6, [.ref 148, .int a1], [.int (I 149 0), .int 0, .int a1], sM Ln (dd_u I 148 (upd (I 148) 0 0)) L c s) _
  refine dd_Rn.sub 2 (pc := 8) (ls := [.ref 148, .int a1]) (st := [.int ((I 149 0) - 1), .int 0, .int a1]) (M := sM Ln (dd_u I 148 (upd (I 148) 0 0)) L c s) (x := m_X11_in) (as := [.int a1, .int 0, .int ((I 149 0) - 1)]) (rest := []) rfl rfl rfl rfl ?_
  show dd_Rn (e + 14) m_X11_in (0, [.int a1, .int 0, .int ((I 149 0) - 1)], [], sM Ln (dd_u I 148 (upd (I 148) 0 0)) L c s) _
  refine dd_Rn.ite 2 (c := a1 < 0) (A := (14, [.int a1, .int 0, .int ((I 149 0) - 1)], [], sM Ln (dd_u I 148 (upd (I 148) 0 0)) L c s)) (B := (5, [.int a1, .int 0, .int ((I 149 0) - 1)], [], sM Ln (dd_u I 148 (upd (I 148) 0 0)) L c s)) rfl (fun hc => ?_) (fun hc => ?_) (by omega)
  · have h := h.1 hc
    refine dd_Rn.retK 1 (pc := 15) (ls := [.int a1, .int 0, .int ((I 149 0) - 1)]) (st := [.int 0]) (M := sM Ln (dd_u I 148 (upd (I 148) 0 0)) L c s) (o := (none, .int 0, sM Ln (dd_u I 148 (upd (I 148) 0 0)) L c s)) rfl rfl (dd_Af.ret rfl ?_) (by omega)
    show dd_Rn (e + 15) m_X11_noPart (11, [.ref 148, .int a1], [.int 0], sM Ln (dd_u I 148 (upd (I 148) 0 0)) L c s) _
    refine dd_Rn.retK 3 (pc := 19) (ls := [.ref 148, .int a1]) (st := [.int 1]) (M := sM Ln (dd_u I 148 (upd (I 148) 0 0)) L c s) (o := (none, .int 1, sM Ln (dd_u I 148 (upd (I 148) 0 0)) L c s)) rfl rfl (dd_Af.ret rfl ?_) (by omega)
    show dd_Rn (e + 16) m_X11_shifted (11, [.ref 148, .int a1, .int a2, .null], [.int 1, .ref 148], sM Ln (dd_u I 148 (upd (I 148) 0 0)) L c s) _
    refine dd_Rn.sub 4 (pc := 28) (ls := [.ref 148, .int a1, .int a2, .null]) (st := [.int 1, .int 1, .ref 148]) (M := sM Ln (dd_u I 148 (upd (I 148) 0 0)) L c s) (x := m_X11_throwsIf) (as := [.ref 148, .int 1, .int 1]) (rest := []) rfl rfl rfl rfl ?_
    show dd_Rn (e + 15) m_X11_throwsIf (0, [.ref 148, .int 1, .int 1], [], sM Ln (dd_u I 148 (upd (I 148) 0 0)) L c s) _
    refine dd_Rn.retK 6 (pc := 10) (ls := [.ref 148, .int 1, .int 1]) (st := [.int 1]) (M := sM Ln (dd_u (dd_u I 148 (upd (I 148) 0 0)) 148 (upd (upd (I 148) 0 0) 0 1)) L c s) (o := (none, .int 1, sM Ln (dd_u (dd_u I 148 (upd (I 148) 0 0)) 148 (upd (upd (I 148) 0 0) 0 1)) L c s)) rfl rfl (dd_Af.ret rfl ?_) (by omega)
    show dd_Rn (e + 16) m_X11_shifted (31, [.ref 148, .int a1, .int a2, .null], [.int 1], sM Ln (dd_u (dd_u I 148 (upd (I 148) 0 0)) 148 (upd (upd (I 148) 0 0) 0 1)) L c s) _
    exact dd_Rn.retK 2 (pc := 53) (ls := [.ref 148, .int a1, .int a2, .null]) (st := [.int 0]) (M := sM Ln (dd_u (dd_u I 148 (upd (I 148) 0 0)) 148 (upd (upd (I 148) 0 0) 0 1)) L c s) (o := (none, .int 0, sM Ln (dd_u (dd_u I 148 (upd (I 148) 0 0)) 148 (upd (upd (I 148) 0 0) 0 1)) L c s)) rfl rfl h (by omega)
  · have h := h.2 hc
    refine dd_Rn.ite 2 (c := (I 149 0) - 1 < a1) (A := (14, [.int a1, .int 0, .int ((I 149 0) - 1)], [], sM Ln (dd_u I 148 (upd (I 148) 0 0)) L c s)) (B := (10, [.int a1, .int 0, .int ((I 149 0) - 1)], [], sM Ln (dd_u I 148 (upd (I 148) 0 0)) L c s)) rfl (fun hc => ?_) (fun hc => ?_) (by omega)
    · have h := h.1 hc
      refine dd_Rn.retK 1 (pc := 15) (ls := [.int a1, .int 0, .int ((I 149 0) - 1)]) (st := [.int 0]) (M := sM Ln (dd_u I 148 (upd (I 148) 0 0)) L c s) (o := (none, .int 0, sM Ln (dd_u I 148 (upd (I 148) 0 0)) L c s)) rfl rfl (dd_Af.ret rfl ?_) (by omega)
      show dd_Rn (e + 15) m_X11_noPart (11, [.ref 148, .int a1], [.int 0], sM Ln (dd_u I 148 (upd (I 148) 0 0)) L c s) _
      refine dd_Rn.retK 3 (pc := 19) (ls := [.ref 148, .int a1]) (st := [.int 1]) (M := sM Ln (dd_u I 148 (upd (I 148) 0 0)) L c s) (o := (none, .int 1, sM Ln (dd_u I 148 (upd (I 148) 0 0)) L c s)) rfl rfl (dd_Af.ret rfl ?_) (by omega)
      show dd_Rn (e + 16) m_X11_shifted (11, [.ref 148, .int a1, .int a2, .null], [.int 1, .ref 148], sM Ln (dd_u I 148 (upd (I 148) 0 0)) L c s) _
      refine dd_Rn.sub 4 (pc := 28) (ls := [.ref 148, .int a1, .int a2, .null]) (st := [.int 1, .int 1, .ref 148]) (M := sM Ln (dd_u I 148 (upd (I 148) 0 0)) L c s) (x := m_X11_throwsIf) (as := [.ref 148, .int 1, .int 1]) (rest := []) rfl rfl rfl rfl ?_
      show dd_Rn (e + 15) m_X11_throwsIf (0, [.ref 148, .int 1, .int 1], [], sM Ln (dd_u I 148 (upd (I 148) 0 0)) L c s) _
      refine dd_Rn.retK 6 (pc := 10) (ls := [.ref 148, .int 1, .int 1]) (st := [.int 1]) (M := sM Ln (dd_u (dd_u I 148 (upd (I 148) 0 0)) 148 (upd (upd (I 148) 0 0) 0 1)) L c s) (o := (none, .int 1, sM Ln (dd_u (dd_u I 148 (upd (I 148) 0 0)) 148 (upd (upd (I 148) 0 0) 0 1)) L c s)) rfl rfl (dd_Af.ret rfl ?_) (by omega)
      show dd_Rn (e + 16) m_X11_shifted (31, [.ref 148, .int a1, .int a2, .null], [.int 1], sM Ln (dd_u (dd_u I 148 (upd (I 148) 0 0)) 148 (upd (upd (I 148) 0 0) 0 1)) L c s) _
      exact dd_Rn.retK 2 (pc := 53) (ls := [.ref 148, .int a1, .int a2, .null]) (st := [.int 0]) (M := sM Ln (dd_u (dd_u I 148 (upd (I 148) 0 0)) 148 (upd (upd (I 148) 0 0) 0 1)) L c s) (o := (none, .int 0, sM Ln (dd_u (dd_u I 148 (upd (I 148) 0 0)) 148 (upd (upd (I 148) 0 0) 0 1)) L c s)) rfl rfl h (by omega)
    · have h := h.2 hc
      refine dd_Rn.retK 2 (pc := 15) (ls := [.int a1, .int 0, .int ((I 149 0) - 1)]) (st := [.int 1]) (M := sM Ln (dd_u I 148 (upd (I 148) 0 0)) L c s) (o := (none, .int 1, sM Ln (dd_u I 148 (upd (I 148) 0 0)) L c s)) rfl rfl (dd_Af.ret rfl ?_) (by omega)
      show dd_Rn (e + 15) m_X11_noPart (11, [.ref 148, .int a1], [.int 1], sM Ln (dd_u I 148 (upd (I 148) 0 0)) L c s) _
      refine dd_Rn.retK 2 (pc := 19) (ls := [.ref 148, .int a1]) (st := [.int 0]) (M := sM Ln (dd_u I 148 (upd (I 148) 0 0)) L c s) (o := (none, .int 0, sM Ln (dd_u I 148 (upd (I 148) 0 0)) L c s)) rfl rfl (dd_Af.ret rfl ?_) (by omega)
      show dd_Rn (e + 16) m_X11_shifted (11, [.ref 148, .int a1, .int a2, .null], [.int 0, .ref 148], sM Ln (dd_u I 148 (upd (I 148) 0 0)) L c s) _
      refine dd_Rn.sub 3 (pc := 16) (ls := [.ref 148, .int a1, .int a2, .null]) (st := [.int a2, .ref 148, .ref 148]) (M := sM Ln (dd_u I 148 (upd (I 148) 0 0)) L c s) (x := m_X11_noPart) (as := [.ref 148, .int a2]) (rest := [.ref 148]) rfl rfl rfl rfl ?_
      show dd_Rn (e + 15) m_X11_noPart (0, [.ref 148, .int a2], [], sM Ln (dd_u I 148 (upd (I 148) 0 0)) L c s) _
      refine dd_Rn.sub 3 (pc := 3) (ls := [.ref 148, .int a2]) (st := [.ref 148, .int 0, .int a2]) (M := sM Ln (dd_u I 148 (upd (I 148) 0 0)) L c s) (x := m_X11_parts) (as := [.ref 148]) (rest := [.int 0, .int a2]) rfl rfl rfl rfl ?_
      show dd_Rn (e + 14) m_X11_parts (0, [.ref 148], [], sM Ln (dd_u I 148 (upd (I 148) 0 0)) L c s) _
      refine dd_Rn.retK 4 (pc := 6) (ls := [.ref 148]) (st := [.int (I 149 0)]) (M := sM Ln (dd_u I 148 (upd (I 148) 0 0)) L c s) (o := (none, .int (I 149 0), sM Ln (dd_u I 148 (upd (I 148) 0 0)) L c s)) rfl rfl (dd_Af.ret rfl ?_) (by omega)
      show dd_Rn (e + 15) m_X11_noPart (6, [.ref 148, .int a2], [.int (I 149 0), .int 0, .int a2], sM Ln (dd_u I 148 (upd (I 148) 0 0)) L c s) _
      refine dd_Rn.sub 2 (pc := 8) (ls := [.ref 148, .int a2]) (st := [.int ((I 149 0) - 1), .int 0, .int a2]) (M := sM Ln (dd_u I 148 (upd (I 148) 0 0)) L c s) (x := m_X11_in) (as := [.int a2, .int 0, .int ((I 149 0) - 1)]) (rest := []) rfl rfl rfl rfl ?_
      show dd_Rn (e + 14) m_X11_in (0, [.int a2, .int 0, .int ((I 149 0) - 1)], [], sM Ln (dd_u I 148 (upd (I 148) 0 0)) L c s) _
      refine dd_Rn.ite 2 (c := a2 < 0) (A := (14, [.int a2, .int 0, .int ((I 149 0) - 1)], [], sM Ln (dd_u I 148 (upd (I 148) 0 0)) L c s)) (B := (5, [.int a2, .int 0, .int ((I 149 0) - 1)], [], sM Ln (dd_u I 148 (upd (I 148) 0 0)) L c s)) rfl (fun hc => ?_) (fun hc => ?_) (by omega)
      · have h := h.1 hc
        refine dd_Rn.retK 1 (pc := 15) (ls := [.int a2, .int 0, .int ((I 149 0) - 1)]) (st := [.int 0]) (M := sM Ln (dd_u I 148 (upd (I 148) 0 0)) L c s) (o := (none, .int 0, sM Ln (dd_u I 148 (upd (I 148) 0 0)) L c s)) rfl rfl (dd_Af.ret rfl ?_) (by omega)
        show dd_Rn (e + 15) m_X11_noPart (11, [.ref 148, .int a2], [.int 0], sM Ln (dd_u I 148 (upd (I 148) 0 0)) L c s) _
        refine dd_Rn.retK 3 (pc := 19) (ls := [.ref 148, .int a2]) (st := [.int 1]) (M := sM Ln (dd_u I 148 (upd (I 148) 0 0)) L c s) (o := (none, .int 1, sM Ln (dd_u I 148 (upd (I 148) 0 0)) L c s)) rfl rfl (dd_Af.ret rfl ?_) (by omega)
        show dd_Rn (e + 16) m_X11_shifted (19, [.ref 148, .int a1, .int a2, .null], [.int 1, .ref 148], sM Ln (dd_u I 148 (upd (I 148) 0 0)) L c s) _
        refine dd_Rn.sub 4 (pc := 28) (ls := [.ref 148, .int a1, .int a2, .null]) (st := [.int 1, .int 1, .ref 148]) (M := sM Ln (dd_u I 148 (upd (I 148) 0 0)) L c s) (x := m_X11_throwsIf) (as := [.ref 148, .int 1, .int 1]) (rest := []) rfl rfl rfl rfl ?_
        show dd_Rn (e + 15) m_X11_throwsIf (0, [.ref 148, .int 1, .int 1], [], sM Ln (dd_u I 148 (upd (I 148) 0 0)) L c s) _
        refine dd_Rn.retK 6 (pc := 10) (ls := [.ref 148, .int 1, .int 1]) (st := [.int 1]) (M := sM Ln (dd_u (dd_u I 148 (upd (I 148) 0 0)) 148 (upd (upd (I 148) 0 0) 0 1)) L c s) (o := (none, .int 1, sM Ln (dd_u (dd_u I 148 (upd (I 148) 0 0)) 148 (upd (upd (I 148) 0 0) 0 1)) L c s)) rfl rfl (dd_Af.ret rfl ?_) (by omega)
        show dd_Rn (e + 16) m_X11_shifted (31, [.ref 148, .int a1, .int a2, .null], [.int 1], sM Ln (dd_u (dd_u I 148 (upd (I 148) 0 0)) 148 (upd (upd (I 148) 0 0) 0 1)) L c s) _
        exact dd_Rn.retK 2 (pc := 53) (ls := [.ref 148, .int a1, .int a2, .null]) (st := [.int 0]) (M := sM Ln (dd_u (dd_u I 148 (upd (I 148) 0 0)) 148 (upd (upd (I 148) 0 0) 0 1)) L c s) (o := (none, .int 0, sM Ln (dd_u (dd_u I 148 (upd (I 148) 0 0)) 148 (upd (upd (I 148) 0 0) 0 1)) L c s)) rfl rfl h (by omega)
      · have h := h.2 hc
        refine dd_Rn.ite 2 (c := (I 149 0) - 1 < a2) (A := (14, [.int a2, .int 0, .int ((I 149 0) - 1)], [], sM Ln (dd_u I 148 (upd (I 148) 0 0)) L c s)) (B := (10, [.int a2, .int 0, .int ((I 149 0) - 1)], [], sM Ln (dd_u I 148 (upd (I 148) 0 0)) L c s)) rfl (fun hc => ?_) (fun hc => ?_) (by omega)
        · have h := h.1 hc
          refine dd_Rn.retK 1 (pc := 15) (ls := [.int a2, .int 0, .int ((I 149 0) - 1)]) (st := [.int 0]) (M := sM Ln (dd_u I 148 (upd (I 148) 0 0)) L c s) (o := (none, .int 0, sM Ln (dd_u I 148 (upd (I 148) 0 0)) L c s)) rfl rfl (dd_Af.ret rfl ?_) (by omega)
          show dd_Rn (e + 15) m_X11_noPart (11, [.ref 148, .int a2], [.int 0], sM Ln (dd_u I 148 (upd (I 148) 0 0)) L c s) _
          refine dd_Rn.retK 3 (pc := 19) (ls := [.ref 148, .int a2]) (st := [.int 1]) (M := sM Ln (dd_u I 148 (upd (I 148) 0 0)) L c s) (o := (none, .int 1, sM Ln (dd_u I 148 (upd (I 148) 0 0)) L c s)) rfl rfl (dd_Af.ret rfl ?_) (by omega)
          show dd_Rn (e + 16) m_X11_shifted (19, [.ref 148, .int a1, .int a2, .null], [.int 1, .ref 148], sM Ln (dd_u I 148 (upd (I 148) 0 0)) L c s) _
          refine dd_Rn.sub 4 (pc := 28) (ls := [.ref 148, .int a1, .int a2, .null]) (st := [.int 1, .int 1, .ref 148]) (M := sM Ln (dd_u I 148 (upd (I 148) 0 0)) L c s) (x := m_X11_throwsIf) (as := [.ref 148, .int 1, .int 1]) (rest := []) rfl rfl rfl rfl ?_
          show dd_Rn (e + 15) m_X11_throwsIf (0, [.ref 148, .int 1, .int 1], [], sM Ln (dd_u I 148 (upd (I 148) 0 0)) L c s) _
          refine dd_Rn.retK 6 (pc := 10) (ls := [.ref 148, .int 1, .int 1]) (st := [.int 1]) (M := sM Ln (dd_u (dd_u I 148 (upd (I 148) 0 0)) 148 (upd (upd (I 148) 0 0) 0 1)) L c s) (o := (none, .int 1, sM Ln (dd_u (dd_u I 148 (upd (I 148) 0 0)) 148 (upd (upd (I 148) 0 0) 0 1)) L c s)) rfl rfl (dd_Af.ret rfl ?_) (by omega)
          show dd_Rn (e + 16) m_X11_shifted (31, [.ref 148, .int a1, .int a2, .null], [.int 1], sM Ln (dd_u (dd_u I 148 (upd (I 148) 0 0)) 148 (upd (upd (I 148) 0 0) 0 1)) L c s) _
          exact dd_Rn.retK 2 (pc := 53) (ls := [.ref 148, .int a1, .int a2, .null]) (st := [.int 0]) (M := sM Ln (dd_u (dd_u I 148 (upd (I 148) 0 0)) 148 (upd (upd (I 148) 0 0) 0 1)) L c s) (o := (none, .int 0, sM Ln (dd_u (dd_u I 148 (upd (I 148) 0 0)) 148 (upd (upd (I 148) 0 0) 0 1)) L c s)) rfl rfl h (by omega)
        · have h := h.2 hc
          refine dd_Rn.retK 2 (pc := 15) (ls := [.int a2, .int 0, .int ((I 149 0) - 1)]) (st := [.int 1]) (M := sM Ln (dd_u I 148 (upd (I 148) 0 0)) L c s) (o := (none, .int 1, sM Ln (dd_u I 148 (upd (I 148) 0 0)) L c s)) rfl rfl (dd_Af.ret rfl ?_) (by omega)
          show dd_Rn (e + 15) m_X11_noPart (11, [.ref 148, .int a2], [.int 1], sM Ln (dd_u I 148 (upd (I 148) 0 0)) L c s) _
          refine dd_Rn.retK 2 (pc := 19) (ls := [.ref 148, .int a2]) (st := [.int 0]) (M := sM Ln (dd_u I 148 (upd (I 148) 0 0)) L c s) (o := (none, .int 0, sM Ln (dd_u I 148 (upd (I 148) 0 0)) L c s)) rfl rfl (dd_Af.ret rfl ?_) (by omega)
          show dd_Rn (e + 16) m_X11_shifted (19, [.ref 148, .int a1, .int a2, .null], [.int 0, .ref 148], sM Ln (dd_u I 148 (upd (I 148) 0 0)) L c s) _
          refine dd_Rn.sub 3 (pc := 28) (ls := [.ref 148, .int a1, .int a2, .null]) (st := [.int 1, .int 0, .ref 148]) (M := sM Ln (dd_u I 148 (upd (I 148) 0 0)) L c s) (x := m_X11_throwsIf) (as := [.ref 148, .int 0, .int 1]) (rest := []) rfl rfl rfl rfl ?_
          show dd_Rn (e + 15) m_X11_throwsIf (0, [.ref 148, .int 0, .int 1], [], sM Ln (dd_u I 148 (upd (I 148) 0 0)) L c s) _
          refine dd_Rn.retK 3 (pc := 10) (ls := [.ref 148, .int 0, .int 1]) (st := [.int 0]) (M := sM Ln (dd_u I 148 (upd (I 148) 0 0)) L c s) (o := (none, .int 0, sM Ln (dd_u I 148 (upd (I 148) 0 0)) L c s)) rfl rfl (dd_Af.ret rfl ?_) (by omega)
          show dd_Rn (e + 16) m_X11_shifted (31, [.ref 148, .int a1, .int a2, .null], [.int 0], sM Ln (dd_u I 148 (upd (I 148) 0 0)) L c s) _
          refine dd_Rn.ite 4 (c := a1 = a2) (A := (40, [.ref 148, .int a1, .int a2, .null], [.ref 148], sM Ln (dd_u I 148 (upd (I 148) 0 0)) L c s)) (B := (44, [.ref 148, .int a1, .int a2, .null], [.ref 148], sM Ln (dd_u I 148 (upd (I 148) 0 0)) L c s)) rfl (fun hc => ?_) (fun hc => ?_) (by omega)
          · have h := h.1 hc
            refine dd_Rn.sub 3 (pc := 46) (ls := [.ref 148, .int a1, .int a2, .null]) (st := [.int 2, .int 1, .ref 148]) (M := sM Ln (dd_u I 148 (upd (I 148) 0 0)) L c s) (x := m_X11_throwsIf) (as := [.ref 148, .int 1, .int 2]) (rest := []) rfl rfl rfl rfl ?_
            show dd_Rn (e + 15) m_X11_throwsIf (0, [.ref 148, .int 1, .int 2], [], sM Ln (dd_u I 148 (upd (I 148) 0 0)) L c s) _
            refine dd_Rn.retK 6 (pc := 10) (ls := [.ref 148, .int 1, .int 2]) (st := [.int 1]) (M := sM Ln (dd_u (dd_u I 148 (upd (I 148) 0 0)) 148 (upd (upd (I 148) 0 0) 0 2)) L c s) (o := (none, .int 1, sM Ln (dd_u (dd_u I 148 (upd (I 148) 0 0)) 148 (upd (upd (I 148) 0 0) 0 2)) L c s)) rfl rfl (dd_Af.ret rfl ?_) (by omega)
            show dd_Rn (e + 16) m_X11_shifted (49, [.ref 148, .int a1, .int a2, .null], [.int 1], sM Ln (dd_u (dd_u I 148 (upd (I 148) 0 0)) 148 (upd (upd (I 148) 0 0) 0 2)) L c s) _
            exact dd_Rn.retK 2 (pc := 53) (ls := [.ref 148, .int a1, .int a2, .null]) (st := [.int 0]) (M := sM Ln (dd_u (dd_u I 148 (upd (I 148) 0 0)) 148 (upd (upd (I 148) 0 0) 0 2)) L c s) (o := (none, .int 0, sM Ln (dd_u (dd_u I 148 (upd (I 148) 0 0)) 148 (upd (upd (I 148) 0 0) 0 2)) L c s)) rfl rfl h (by omega)
          · have h := h.2 hc
            refine dd_Rn.sub 2 (pc := 46) (ls := [.ref 148, .int a1, .int a2, .null]) (st := [.int 2, .int 0, .ref 148]) (M := sM Ln (dd_u I 148 (upd (I 148) 0 0)) L c s) (x := m_X11_throwsIf) (as := [.ref 148, .int 0, .int 2]) (rest := []) rfl rfl rfl rfl ?_
            show dd_Rn (e + 15) m_X11_throwsIf (0, [.ref 148, .int 0, .int 2], [], sM Ln (dd_u I 148 (upd (I 148) 0 0)) L c s) _
            refine dd_Rn.retK 3 (pc := 10) (ls := [.ref 148, .int 0, .int 2]) (st := [.int 0]) (M := sM Ln (dd_u I 148 (upd (I 148) 0 0)) L c s) (o := (none, .int 0, sM Ln (dd_u I 148 (upd (I 148) 0 0)) L c s)) rfl rfl (dd_Af.ret rfl ?_) (by omega)
            show dd_Rn (e + 16) m_X11_shifted (49, [.ref 148, .int a1, .int a2, .null], [.int 0], sM Ln (dd_u I 148 (upd (I 148) 0 0)) L c s) _
            exact dd_Rn.go 3 (cf' := (56, [.ref 148, .int a1, .int a2, .int 1], [], sM Ln (dd_u I 148 (upd (I 148) 0 0)) L c s)) rfl h (by omega)

theorem w_X11_shifted_56 {Ln d c s : Nat} {I : Nat → Nat → Int32} {L : Nat → Nat → Int64} {Q : dd_O → Prop} {a1 a2 a3 : Int32} (hd : 28 ≤ d) (h : (((8 : Int32) ≤ a3 → Q (none, .int (-1), sM Ln I L c s)) ∧ (¬ ((8 : Int32) ≤ a3) → dd_Ev (d - 1) m_X11_isShifted [.ref 148, .int a1, .int a2, .int a3] (sM Ln I L c s) (dd_RI Ln c s (fun x1 I1 L1 => ((x1 = 0 → dd_Rn d m_X11_shifted (56, [.ref 148, .int a1, .int a2, .int (a3 + 1)], [], sM Ln I1 L1 c s) Q) ∧ (¬ (x1 = 0) → Q (none, .int a3, sM Ln I1 L1 c s)))))))) : dd_Rn d m_X11_shifted (56, [.ref 148, .int a1, .int a2, .int a3], [], sM Ln I L c s) Q := by
  obtain ⟨e, rfl⟩ : ∃ e, d = e + 16 := ⟨d - 16, by omega⟩
  refine dd_Rn.ite 2 (c := (8 : Int32) ≤ a3) (A := (80, [.ref 148, .int a1, .int a2, .int a3], [], sM Ln I L c s)) (B := (62, [.ref 148, .int a1, .int a2, .int a3], [], sM Ln I L c s)) rfl (fun hc => ?_) (fun hc => ?_) (by omega)
  · have h := h.1 hc
    exact dd_Rn.retK 1 (pc := 81) (ls := [.ref 148, .int a1, .int a2, .int a3]) (st := [.int (-1)]) (M := sM Ln I L c s) (o := (none, .int (-1), sM Ln I L c s)) rfl rfl h (by omega)
  · have h := h.2 hc
    refine dd_Rn.cI 4 (pc := 66) (ls := [.ref 148, .int a1, .int a2, .int a3]) (st := [.int a3, .int a2, .int a1, .ref 148]) (x := m_X11_isShifted) (as := [.ref 148, .int a1, .int a2, .int a3]) (rest := []) rfl rfl rfl rfl h ?_
    intro x1 I1 L1 h
    show dd_Rn (e + 16) m_X11_shifted (69, [.ref 148, .int a1, .int a2, .int a3], [.int x1], sM Ln I1 L1 c s) _
    refine dd_Rn.ite 0 (c := x1 = 0) (A := (74, [.ref 148, .int a1, .int a2, .int a3], [], sM Ln I1 L1 c s)) (B := (72, [.ref 148, .int a1, .int a2, .int a3], [], sM Ln I1 L1 c s)) rfl (fun hc => ?_) (fun hc => ?_) (by omega)
    · have h := h.1 hc
      exact dd_Rn.go 2 (cf' := (56, [.ref 148, .int a1, .int a2, .int (a3 + 1)], [], sM Ln I1 L1 c s)) rfl h (by omega)
    · have h := h.2 hc
      exact dd_Rn.retK 1 (pc := 73) (ls := [.ref 148, .int a1, .int a2, .int a3]) (st := [.int a3]) (M := sM Ln I1 L1 c s) (o := (none, .int a3, sM Ln I1 L1 c s)) rfl rfl h (by omega)

theorem w_X11_silence_0 {Ln d c s : Nat} {I : Nat → Nat → Int32} {L : Nat → Nat → Int64} {Q : dd_O → Prop} {a1 : Int32} (hd : 28 ≤ d) (h : ((a1 < 0 → Q (none, .int 0, sM Ln (dd_u (dd_u I 148 (upd (I 148) 0 0)) 148 (upd (upd (I 148) 0 0) 0 1)) L c s)) ∧ (¬ (a1 < 0) → (((I 149 0) - 1 < a1 → Q (none, .int 0, sM Ln (dd_u (dd_u I 148 (upd (I 148) 0 0)) 148 (upd (upd (I 148) 0 0) 0 1)) L c s)) ∧ (¬ ((I 149 0) - 1 < a1) → dd_Ev (d - 1) m_X11_silenceOf [.ref 148, .int a1] (sM Ln (dd_u I 148 (upd (I 148) 0 0)) L c s) (dd_RI Ln c s (fun x1 I1 L1 => Q (none, .int x1, sM Ln I1 L1 c s)))))))) : dd_Ev d m_X11_silence [.ref 148, .int a1] (sM Ln I L c s) Q := by
  obtain ⟨e, rfl⟩ : ∃ e, d = e + 16 := ⟨d - 16, by omega⟩
  show dd_Rn (e + 16) m_X11_silence (0, [.ref 148, .int a1], [], sM Ln I L c s) Q
  refine dd_Rn.sub 6 (pc := 8) (ls := [.ref 148, .int a1]) (st := [.int a1, .ref 148, .ref 148]) (M := sM Ln (dd_u I 148 (upd (I 148) 0 0)) L c s) (x := m_X11_noPart) (as := [.ref 148, .int a1]) (rest := [.ref 148]) rfl rfl rfl rfl ?_
  show dd_Rn (e + 15) m_X11_noPart (0, [.ref 148, .int a1], [], sM Ln (dd_u I 148 (upd (I 148) 0 0)) L c s) _
  refine dd_Rn.sub 3 (pc := 3) (ls := [.ref 148, .int a1]) (st := [.ref 148, .int 0, .int a1]) (M := sM Ln (dd_u I 148 (upd (I 148) 0 0)) L c s) (x := m_X11_parts) (as := [.ref 148]) (rest := [.int 0, .int a1]) rfl rfl rfl rfl ?_
  show dd_Rn (e + 14) m_X11_parts (0, [.ref 148], [], sM Ln (dd_u I 148 (upd (I 148) 0 0)) L c s) _
  refine dd_Rn.retK 4 (pc := 6) (ls := [.ref 148]) (st := [.int (I 149 0)]) (M := sM Ln (dd_u I 148 (upd (I 148) 0 0)) L c s) (o := (none, .int (I 149 0), sM Ln (dd_u I 148 (upd (I 148) 0 0)) L c s)) rfl rfl (dd_Af.ret rfl ?_) (by omega)
  show dd_Rn (e + 15) m_X11_noPart (6, [.ref 148, .int a1], [.int (I 149 0), .int 0, .int a1], sM Ln (dd_u I 148 (upd (I 148) 0 0)) L c s) _
  refine dd_Rn.sub 2 (pc := 8) (ls := [.ref 148, .int a1]) (st := [.int ((I 149 0) - 1), .int 0, .int a1]) (M := sM Ln (dd_u I 148 (upd (I 148) 0 0)) L c s) (x := m_X11_in) (as := [.int a1, .int 0, .int ((I 149 0) - 1)]) (rest := []) rfl rfl rfl rfl ?_
  show dd_Rn (e + 14) m_X11_in (0, [.int a1, .int 0, .int ((I 149 0) - 1)], [], sM Ln (dd_u I 148 (upd (I 148) 0 0)) L c s) _
  refine dd_Rn.ite 2 (c := a1 < 0) (A := (14, [.int a1, .int 0, .int ((I 149 0) - 1)], [], sM Ln (dd_u I 148 (upd (I 148) 0 0)) L c s)) (B := (5, [.int a1, .int 0, .int ((I 149 0) - 1)], [], sM Ln (dd_u I 148 (upd (I 148) 0 0)) L c s)) rfl (fun hc => ?_) (fun hc => ?_) (by omega)
  · have h := h.1 hc
    refine dd_Rn.retK 1 (pc := 15) (ls := [.int a1, .int 0, .int ((I 149 0) - 1)]) (st := [.int 0]) (M := sM Ln (dd_u I 148 (upd (I 148) 0 0)) L c s) (o := (none, .int 0, sM Ln (dd_u I 148 (upd (I 148) 0 0)) L c s)) rfl rfl (dd_Af.ret rfl ?_) (by omega)
    show dd_Rn (e + 15) m_X11_noPart (11, [.ref 148, .int a1], [.int 0], sM Ln (dd_u I 148 (upd (I 148) 0 0)) L c s) _
    refine dd_Rn.retK 3 (pc := 19) (ls := [.ref 148, .int a1]) (st := [.int 1]) (M := sM Ln (dd_u I 148 (upd (I 148) 0 0)) L c s) (o := (none, .int 1, sM Ln (dd_u I 148 (upd (I 148) 0 0)) L c s)) rfl rfl (dd_Af.ret rfl ?_) (by omega)
    show dd_Rn (e + 16) m_X11_silence (11, [.ref 148, .int a1], [.int 1, .ref 148], sM Ln (dd_u I 148 (upd (I 148) 0 0)) L c s) _
    refine dd_Rn.sub 1 (pc := 12) (ls := [.ref 148, .int a1]) (st := [.int 1, .int 1, .ref 148]) (M := sM Ln (dd_u I 148 (upd (I 148) 0 0)) L c s) (x := m_X11_throwsIf) (as := [.ref 148, .int 1, .int 1]) (rest := []) rfl rfl rfl rfl ?_
    show dd_Rn (e + 15) m_X11_throwsIf (0, [.ref 148, .int 1, .int 1], [], sM Ln (dd_u I 148 (upd (I 148) 0 0)) L c s) _
    refine dd_Rn.retK 6 (pc := 10) (ls := [.ref 148, .int 1, .int 1]) (st := [.int 1]) (M := sM Ln (dd_u (dd_u I 148 (upd (I 148) 0 0)) 148 (upd (upd (I 148) 0 0) 0 1)) L c s) (o := (none, .int 1, sM Ln (dd_u (dd_u I 148 (upd (I 148) 0 0)) 148 (upd (upd (I 148) 0 0) 0 1)) L c s)) rfl rfl (dd_Af.ret rfl ?_) (by omega)
    show dd_Rn (e + 16) m_X11_silence (15, [.ref 148, .int a1], [.int 1], sM Ln (dd_u (dd_u I 148 (upd (I 148) 0 0)) 148 (upd (upd (I 148) 0 0) 0 1)) L c s) _
    exact dd_Rn.retK 3 (pc := 27) (ls := [.ref 148, .int a1]) (st := [.int 0]) (M := sM Ln (dd_u (dd_u I 148 (upd (I 148) 0 0)) 148 (upd (upd (I 148) 0 0) 0 1)) L c s) (o := (none, .int 0, sM Ln (dd_u (dd_u I 148 (upd (I 148) 0 0)) 148 (upd (upd (I 148) 0 0) 0 1)) L c s)) rfl rfl h (by omega)
  · have h := h.2 hc
    refine dd_Rn.ite 2 (c := (I 149 0) - 1 < a1) (A := (14, [.int a1, .int 0, .int ((I 149 0) - 1)], [], sM Ln (dd_u I 148 (upd (I 148) 0 0)) L c s)) (B := (10, [.int a1, .int 0, .int ((I 149 0) - 1)], [], sM Ln (dd_u I 148 (upd (I 148) 0 0)) L c s)) rfl (fun hc => ?_) (fun hc => ?_) (by omega)
    · have h := h.1 hc
      refine dd_Rn.retK 1 (pc := 15) (ls := [.int a1, .int 0, .int ((I 149 0) - 1)]) (st := [.int 0]) (M := sM Ln (dd_u I 148 (upd (I 148) 0 0)) L c s) (o := (none, .int 0, sM Ln (dd_u I 148 (upd (I 148) 0 0)) L c s)) rfl rfl (dd_Af.ret rfl ?_) (by omega)
      show dd_Rn (e + 15) m_X11_noPart (11, [.ref 148, .int a1], [.int 0], sM Ln (dd_u I 148 (upd (I 148) 0 0)) L c s) _
      refine dd_Rn.retK 3 (pc := 19) (ls := [.ref 148, .int a1]) (st := [.int 1]) (M := sM Ln (dd_u I 148 (upd (I 148) 0 0)) L c s) (o := (none, .int 1, sM Ln (dd_u I 148 (upd (I 148) 0 0)) L c s)) rfl rfl (dd_Af.ret rfl ?_) (by omega)
      show dd_Rn (e + 16) m_X11_silence (11, [.ref 148, .int a1], [.int 1, .ref 148], sM Ln (dd_u I 148 (upd (I 148) 0 0)) L c s) _
      refine dd_Rn.sub 1 (pc := 12) (ls := [.ref 148, .int a1]) (st := [.int 1, .int 1, .ref 148]) (M := sM Ln (dd_u I 148 (upd (I 148) 0 0)) L c s) (x := m_X11_throwsIf) (as := [.ref 148, .int 1, .int 1]) (rest := []) rfl rfl rfl rfl ?_
      show dd_Rn (e + 15) m_X11_throwsIf (0, [.ref 148, .int 1, .int 1], [], sM Ln (dd_u I 148 (upd (I 148) 0 0)) L c s) _
      refine dd_Rn.retK 6 (pc := 10) (ls := [.ref 148, .int 1, .int 1]) (st := [.int 1]) (M := sM Ln (dd_u (dd_u I 148 (upd (I 148) 0 0)) 148 (upd (upd (I 148) 0 0) 0 1)) L c s) (o := (none, .int 1, sM Ln (dd_u (dd_u I 148 (upd (I 148) 0 0)) 148 (upd (upd (I 148) 0 0) 0 1)) L c s)) rfl rfl (dd_Af.ret rfl ?_) (by omega)
      show dd_Rn (e + 16) m_X11_silence (15, [.ref 148, .int a1], [.int 1], sM Ln (dd_u (dd_u I 148 (upd (I 148) 0 0)) 148 (upd (upd (I 148) 0 0) 0 1)) L c s) _
      exact dd_Rn.retK 3 (pc := 27) (ls := [.ref 148, .int a1]) (st := [.int 0]) (M := sM Ln (dd_u (dd_u I 148 (upd (I 148) 0 0)) 148 (upd (upd (I 148) 0 0) 0 1)) L c s) (o := (none, .int 0, sM Ln (dd_u (dd_u I 148 (upd (I 148) 0 0)) 148 (upd (upd (I 148) 0 0) 0 1)) L c s)) rfl rfl h (by omega)
    · have h := h.2 hc
      refine dd_Rn.retK 2 (pc := 15) (ls := [.int a1, .int 0, .int ((I 149 0) - 1)]) (st := [.int 1]) (M := sM Ln (dd_u I 148 (upd (I 148) 0 0)) L c s) (o := (none, .int 1, sM Ln (dd_u I 148 (upd (I 148) 0 0)) L c s)) rfl rfl (dd_Af.ret rfl ?_) (by omega)
      show dd_Rn (e + 15) m_X11_noPart (11, [.ref 148, .int a1], [.int 1], sM Ln (dd_u I 148 (upd (I 148) 0 0)) L c s) _
      refine dd_Rn.retK 2 (pc := 19) (ls := [.ref 148, .int a1]) (st := [.int 0]) (M := sM Ln (dd_u I 148 (upd (I 148) 0 0)) L c s) (o := (none, .int 0, sM Ln (dd_u I 148 (upd (I 148) 0 0)) L c s)) rfl rfl (dd_Af.ret rfl ?_) (by omega)
      show dd_Rn (e + 16) m_X11_silence (11, [.ref 148, .int a1], [.int 0, .ref 148], sM Ln (dd_u I 148 (upd (I 148) 0 0)) L c s) _
      refine dd_Rn.sub 1 (pc := 12) (ls := [.ref 148, .int a1]) (st := [.int 1, .int 0, .ref 148]) (M := sM Ln (dd_u I 148 (upd (I 148) 0 0)) L c s) (x := m_X11_throwsIf) (as := [.ref 148, .int 0, .int 1]) (rest := []) rfl rfl rfl rfl ?_
      show dd_Rn (e + 15) m_X11_throwsIf (0, [.ref 148, .int 0, .int 1], [], sM Ln (dd_u I 148 (upd (I 148) 0 0)) L c s) _
      refine dd_Rn.retK 3 (pc := 10) (ls := [.ref 148, .int 0, .int 1]) (st := [.int 0]) (M := sM Ln (dd_u I 148 (upd (I 148) 0 0)) L c s) (o := (none, .int 0, sM Ln (dd_u I 148 (upd (I 148) 0 0)) L c s)) rfl rfl (dd_Af.ret rfl ?_) (by omega)
      show dd_Rn (e + 16) m_X11_silence (15, [.ref 148, .int a1], [.int 0], sM Ln (dd_u I 148 (upd (I 148) 0 0)) L c s) _
      refine dd_Rn.cI 3 (pc := 24) (ls := [.ref 148, .int a1]) (st := [.int a1, .ref 148]) (x := m_X11_silenceOf) (as := [.ref 148, .int a1]) (rest := []) rfl rfl rfl rfl h ?_
      intro x1 I1 L1 h
      show dd_Rn (e + 16) m_X11_silence (27, [.ref 148, .int a1], [.int x1], sM Ln I1 L1 c s) _
      exact dd_Rn.retK 0 (pc := 27) (ls := [.ref 148, .int a1]) (st := [.int x1]) (M := sM Ln I1 L1 c s) (o := (none, .int x1, sM Ln I1 L1 c s)) rfl rfl h (by omega)

theorem w_X11_hush_0 {Ln d c s : Nat} {I : Nat → Nat → Int32} {L : Nat → Nat → Int64} {Q : dd_O → Prop} {a1 : Int32} (hd : 28 ≤ d) (h : ((a1 < 0 → Q (none, .int 0, sM Ln (dd_u (dd_u I 148 (upd (I 148) 0 0)) 148 (upd (upd (I 148) 0 0) 0 1)) L c s)) ∧ (¬ (a1 < 0) → (((I 149 0) - 1 < a1 → Q (none, .int 0, sM Ln (dd_u (dd_u I 148 (upd (I 148) 0 0)) 148 (upd (upd (I 148) 0 0) 0 1)) L c s)) ∧ (¬ ((I 149 0) - 1 < a1) → dd_Rn d m_X11_hush (27, [.ref 148, .int a1, .int 0, .int 0, .int 0], [], sM Ln (dd_u I 148 (upd (I 148) 0 0)) L c s) Q))))) : dd_Ev d m_X11_hush [.ref 148, .int a1] (sM Ln I L c s) Q := by
  obtain ⟨e, rfl⟩ : ∃ e, d = e + 16 := ⟨d - 16, by omega⟩
  show dd_Rn (e + 16) m_X11_hush (0, [.ref 148, .int a1, .null, .null, .null], [], sM Ln I L c s) Q
  refine dd_Rn.sub 6 (pc := 8) (ls := [.ref 148, .int a1, .null, .null, .null]) (st := [.int a1, .ref 148, .ref 148]) (M := sM Ln (dd_u I 148 (upd (I 148) 0 0)) L c s) (x := m_X11_noPart) (as := [.ref 148, .int a1]) (rest := [.ref 148]) rfl rfl rfl rfl ?_
  show dd_Rn (e + 15) m_X11_noPart (0, [.ref 148, .int a1], [], sM Ln (dd_u I 148 (upd (I 148) 0 0)) L c s) _
  refine dd_Rn.sub 3 (pc := 3) (ls := [.ref 148, .int a1]) (st := [.ref 148, .int 0, .int a1]) (M := sM Ln (dd_u I 148 (upd (I 148) 0 0)) L c s) (x := m_X11_parts) (as := [.ref 148]) (rest := [.int 0, .int a1]) rfl rfl rfl rfl ?_
  show dd_Rn (e + 14) m_X11_parts (0, [.ref 148], [], sM Ln (dd_u I 148 (upd (I 148) 0 0)) L c s) _
  refine dd_Rn.retK 4 (pc := 6) (ls := [.ref 148]) (st := [.int (I 149 0)]) (M := sM Ln (dd_u I 148 (upd (I 148) 0 0)) L c s) (o := (none, .int (I 149 0), sM Ln (dd_u I 148 (upd (I 148) 0 0)) L c s)) rfl rfl (dd_Af.ret rfl ?_) (by omega)
  show dd_Rn (e + 15) m_X11_noPart (6, [.ref 148, .int a1], [.int (I 149 0), .int 0, .int a1], sM Ln (dd_u I 148 (upd (I 148) 0 0)) L c s) _
  refine dd_Rn.sub 2 (pc := 8) (ls := [.ref 148, .int a1]) (st := [.int ((I 149 0) - 1), .int 0, .int a1]) (M := sM Ln (dd_u I 148 (upd (I 148) 0 0)) L c s) (x := m_X11_in) (as := [.int a1, .int 0, .int ((I 149 0) - 1)]) (rest := []) rfl rfl rfl rfl ?_
  show dd_Rn (e + 14) m_X11_in (0, [.int a1, .int 0, .int ((I 149 0) - 1)], [], sM Ln (dd_u I 148 (upd (I 148) 0 0)) L c s) _
  refine dd_Rn.ite 2 (c := a1 < 0) (A := (14, [.int a1, .int 0, .int ((I 149 0) - 1)], [], sM Ln (dd_u I 148 (upd (I 148) 0 0)) L c s)) (B := (5, [.int a1, .int 0, .int ((I 149 0) - 1)], [], sM Ln (dd_u I 148 (upd (I 148) 0 0)) L c s)) rfl (fun hc => ?_) (fun hc => ?_) (by omega)
  · have h := h.1 hc
    refine dd_Rn.retK 1 (pc := 15) (ls := [.int a1, .int 0, .int ((I 149 0) - 1)]) (st := [.int 0]) (M := sM Ln (dd_u I 148 (upd (I 148) 0 0)) L c s) (o := (none, .int 0, sM Ln (dd_u I 148 (upd (I 148) 0 0)) L c s)) rfl rfl (dd_Af.ret rfl ?_) (by omega)
    show dd_Rn (e + 15) m_X11_noPart (11, [.ref 148, .int a1], [.int 0], sM Ln (dd_u I 148 (upd (I 148) 0 0)) L c s) _
    refine dd_Rn.retK 3 (pc := 19) (ls := [.ref 148, .int a1]) (st := [.int 1]) (M := sM Ln (dd_u I 148 (upd (I 148) 0 0)) L c s) (o := (none, .int 1, sM Ln (dd_u I 148 (upd (I 148) 0 0)) L c s)) rfl rfl (dd_Af.ret rfl ?_) (by omega)
    show dd_Rn (e + 16) m_X11_hush (11, [.ref 148, .int a1, .null, .null, .null], [.int 1, .ref 148], sM Ln (dd_u I 148 (upd (I 148) 0 0)) L c s) _
    refine dd_Rn.sub 1 (pc := 12) (ls := [.ref 148, .int a1, .null, .null, .null]) (st := [.int 1, .int 1, .ref 148]) (M := sM Ln (dd_u I 148 (upd (I 148) 0 0)) L c s) (x := m_X11_throwsIf) (as := [.ref 148, .int 1, .int 1]) (rest := []) rfl rfl rfl rfl ?_
    show dd_Rn (e + 15) m_X11_throwsIf (0, [.ref 148, .int 1, .int 1], [], sM Ln (dd_u I 148 (upd (I 148) 0 0)) L c s) _
    refine dd_Rn.retK 6 (pc := 10) (ls := [.ref 148, .int 1, .int 1]) (st := [.int 1]) (M := sM Ln (dd_u (dd_u I 148 (upd (I 148) 0 0)) 148 (upd (upd (I 148) 0 0) 0 1)) L c s) (o := (none, .int 1, sM Ln (dd_u (dd_u I 148 (upd (I 148) 0 0)) 148 (upd (upd (I 148) 0 0) 0 1)) L c s)) rfl rfl (dd_Af.ret rfl ?_) (by omega)
    show dd_Rn (e + 16) m_X11_hush (15, [.ref 148, .int a1, .null, .null, .null], [.int 1], sM Ln (dd_u (dd_u I 148 (upd (I 148) 0 0)) 148 (upd (upd (I 148) 0 0) 0 1)) L c s) _
    exact dd_Rn.retK 2 (pc := 19) (ls := [.ref 148, .int a1, .null, .null, .null]) (st := [.int 0]) (M := sM Ln (dd_u (dd_u I 148 (upd (I 148) 0 0)) 148 (upd (upd (I 148) 0 0) 0 1)) L c s) (o := (none, .int 0, sM Ln (dd_u (dd_u I 148 (upd (I 148) 0 0)) 148 (upd (upd (I 148) 0 0) 0 1)) L c s)) rfl rfl h (by omega)
  · have h := h.2 hc
    refine dd_Rn.ite 2 (c := (I 149 0) - 1 < a1) (A := (14, [.int a1, .int 0, .int ((I 149 0) - 1)], [], sM Ln (dd_u I 148 (upd (I 148) 0 0)) L c s)) (B := (10, [.int a1, .int 0, .int ((I 149 0) - 1)], [], sM Ln (dd_u I 148 (upd (I 148) 0 0)) L c s)) rfl (fun hc => ?_) (fun hc => ?_) (by omega)
    · have h := h.1 hc
      refine dd_Rn.retK 1 (pc := 15) (ls := [.int a1, .int 0, .int ((I 149 0) - 1)]) (st := [.int 0]) (M := sM Ln (dd_u I 148 (upd (I 148) 0 0)) L c s) (o := (none, .int 0, sM Ln (dd_u I 148 (upd (I 148) 0 0)) L c s)) rfl rfl (dd_Af.ret rfl ?_) (by omega)
      show dd_Rn (e + 15) m_X11_noPart (11, [.ref 148, .int a1], [.int 0], sM Ln (dd_u I 148 (upd (I 148) 0 0)) L c s) _
      refine dd_Rn.retK 3 (pc := 19) (ls := [.ref 148, .int a1]) (st := [.int 1]) (M := sM Ln (dd_u I 148 (upd (I 148) 0 0)) L c s) (o := (none, .int 1, sM Ln (dd_u I 148 (upd (I 148) 0 0)) L c s)) rfl rfl (dd_Af.ret rfl ?_) (by omega)
      show dd_Rn (e + 16) m_X11_hush (11, [.ref 148, .int a1, .null, .null, .null], [.int 1, .ref 148], sM Ln (dd_u I 148 (upd (I 148) 0 0)) L c s) _
      refine dd_Rn.sub 1 (pc := 12) (ls := [.ref 148, .int a1, .null, .null, .null]) (st := [.int 1, .int 1, .ref 148]) (M := sM Ln (dd_u I 148 (upd (I 148) 0 0)) L c s) (x := m_X11_throwsIf) (as := [.ref 148, .int 1, .int 1]) (rest := []) rfl rfl rfl rfl ?_
      show dd_Rn (e + 15) m_X11_throwsIf (0, [.ref 148, .int 1, .int 1], [], sM Ln (dd_u I 148 (upd (I 148) 0 0)) L c s) _
      refine dd_Rn.retK 6 (pc := 10) (ls := [.ref 148, .int 1, .int 1]) (st := [.int 1]) (M := sM Ln (dd_u (dd_u I 148 (upd (I 148) 0 0)) 148 (upd (upd (I 148) 0 0) 0 1)) L c s) (o := (none, .int 1, sM Ln (dd_u (dd_u I 148 (upd (I 148) 0 0)) 148 (upd (upd (I 148) 0 0) 0 1)) L c s)) rfl rfl (dd_Af.ret rfl ?_) (by omega)
      show dd_Rn (e + 16) m_X11_hush (15, [.ref 148, .int a1, .null, .null, .null], [.int 1], sM Ln (dd_u (dd_u I 148 (upd (I 148) 0 0)) 148 (upd (upd (I 148) 0 0) 0 1)) L c s) _
      exact dd_Rn.retK 2 (pc := 19) (ls := [.ref 148, .int a1, .null, .null, .null]) (st := [.int 0]) (M := sM Ln (dd_u (dd_u I 148 (upd (I 148) 0 0)) 148 (upd (upd (I 148) 0 0) 0 1)) L c s) (o := (none, .int 0, sM Ln (dd_u (dd_u I 148 (upd (I 148) 0 0)) 148 (upd (upd (I 148) 0 0) 0 1)) L c s)) rfl rfl h (by omega)
    · have h := h.2 hc
      refine dd_Rn.retK 2 (pc := 15) (ls := [.int a1, .int 0, .int ((I 149 0) - 1)]) (st := [.int 1]) (M := sM Ln (dd_u I 148 (upd (I 148) 0 0)) L c s) (o := (none, .int 1, sM Ln (dd_u I 148 (upd (I 148) 0 0)) L c s)) rfl rfl (dd_Af.ret rfl ?_) (by omega)
      show dd_Rn (e + 15) m_X11_noPart (11, [.ref 148, .int a1], [.int 1], sM Ln (dd_u I 148 (upd (I 148) 0 0)) L c s) _
      refine dd_Rn.retK 2 (pc := 19) (ls := [.ref 148, .int a1]) (st := [.int 0]) (M := sM Ln (dd_u I 148 (upd (I 148) 0 0)) L c s) (o := (none, .int 0, sM Ln (dd_u I 148 (upd (I 148) 0 0)) L c s)) rfl rfl (dd_Af.ret rfl ?_) (by omega)
      show dd_Rn (e + 16) m_X11_hush (11, [.ref 148, .int a1, .null, .null, .null], [.int 0, .ref 148], sM Ln (dd_u I 148 (upd (I 148) 0 0)) L c s) _
      refine dd_Rn.sub 1 (pc := 12) (ls := [.ref 148, .int a1, .null, .null, .null]) (st := [.int 1, .int 0, .ref 148]) (M := sM Ln (dd_u I 148 (upd (I 148) 0 0)) L c s) (x := m_X11_throwsIf) (as := [.ref 148, .int 0, .int 1]) (rest := []) rfl rfl rfl rfl ?_
      show dd_Rn (e + 15) m_X11_throwsIf (0, [.ref 148, .int 0, .int 1], [], sM Ln (dd_u I 148 (upd (I 148) 0 0)) L c s) _
      refine dd_Rn.retK 3 (pc := 10) (ls := [.ref 148, .int 0, .int 1]) (st := [.int 0]) (M := sM Ln (dd_u I 148 (upd (I 148) 0 0)) L c s) (o := (none, .int 0, sM Ln (dd_u I 148 (upd (I 148) 0 0)) L c s)) rfl rfl (dd_Af.ret rfl ?_) (by omega)
      show dd_Rn (e + 16) m_X11_hush (15, [.ref 148, .int a1, .null, .null, .null], [.int 0], sM Ln (dd_u I 148 (upd (I 148) 0 0)) L c s) _
      exact dd_Rn.go 7 (cf' := (27, [.ref 148, .int a1, .int 0, .int 0, .int 0], [], sM Ln (dd_u I 148 (upd (I 148) 0 0)) L c s)) rfl h (by omega)

theorem w_X11_hush_27 {Ln d c s : Nat} {I : Nat → Nat → Int32} {L : Nat → Nat → Int64} {Q : dd_O → Prop} {a1 a2 a3 a4 : Int32} (hd : 28 ≤ d) (h : (((16 : Int32) ≤ a4 → Q (none, .int (if a2 < 8 then a2 else 8), sM Ln I L c s)) ∧ (¬ ((16 : Int32) ≤ a4) → ((0 ≤ ((139 : Int32) + ((8 : Int32) * a1)) + (a4 - a4 / 8 * 8) ∧ tn (((139 : Int32) + ((8 : Int32) * a1)) + (a4 - a4 / 8 * 8)) < 2220) ∧ ((I 149 (tn (((139 : Int32) + ((8 : Int32) * a1)) + (a4 - a4 / 8 * 8))) = 0 → dd_Rn d m_X11_hush (27, [.ref 148, .int a1, .int (if a2 < a3 + 1 then a3 + 1 else a2), .int (a3 + 1), .int (a4 + 1)], [], sM Ln I L c s) Q) ∧ (¬ (I 149 (tn (((139 : Int32) + ((8 : Int32) * a1)) + (a4 - a4 / 8 * 8))) = 0) → dd_Rn d m_X11_hush (27, [.ref 148, .int a1, .int (if a2 < 0 then 0 else a2), .int 0, .int (a4 + 1)], [], sM Ln I L c s) Q)))))) : dd_Rn d m_X11_hush (27, [.ref 148, .int a1, .int a2, .int a3, .int a4], [], sM Ln I L c s) Q := by
  obtain ⟨e, rfl⟩ : ∃ e, d = e + 16 := ⟨d - 16, by omega⟩
  refine dd_Rn.ite 2 (c := (16 : Int32) ≤ a4) (A := (71, [.ref 148, .int a1, .int a2, .int a3, .int a4], [], sM Ln I L c s)) (B := (34, [.ref 148, .int a1, .int a2, .int a3, .int a4], [], sM Ln I L c s)) rfl (fun hc => ?_) (fun hc => ?_) (by omega)
  · have h := h.1 hc
    exact dd_Rn.retK 3 (pc := 77) (ls := [.ref 148, .int a1, .int a2, .int a3, .int a4]) (st := [.int (if a2 < 8 then a2 else 8)]) (M := sM Ln I L c s) (o := (none, .int (if a2 < 8 then a2 else 8), sM Ln I L c s)) rfl rfl h (by omega)
  · have h := h.2 hc
    refine dd_Rn.sub 6 (pc := 44) (ls := [.ref 148, .int a1, .int a2, .int a3, .int a4]) (st := [.int (a4 - a4 / 8 * 8), .int a1, .ref 149]) (M := sM Ln I L c s) (x := m_X11_noteAt) (as := [.int a1, .int (a4 - a4 / 8 * 8)]) (rest := [.ref 149]) rfl rfl rfl rfl ?_
    show dd_Rn (e + 15) m_X11_noteAt (0, [.int a1, .int (a4 - a4 / 8 * 8)], [], sM Ln I L c s) _
    refine dd_Rn.retK 7 (pc := 10) (ls := [.int a1, .int (a4 - a4 / 8 * 8)]) (st := [.int (((139 : Int32) + ((8 : Int32) * a1)) + (a4 - a4 / 8 * 8))]) (M := sM Ln I L c s) (o := (none, .int (((139 : Int32) + ((8 : Int32) * a1)) + (a4 - a4 / 8 * 8)), sM Ln I L c s)) rfl rfl (dd_Af.ret rfl ?_) (by omega)
    show dd_Rn (e + 16) m_X11_hush (47, [.ref 148, .int a1, .int a2, .int a3, .int a4], [.int (((139 : Int32) + ((8 : Int32) * a1)) + (a4 - a4 / 8 * 8)), .ref 149], sM Ln I L c s) _
    obtain ⟨hc, h⟩ := h
    refine dd_Rn.ci (fun j0 => (47, [.ref 148, .int a1, .int a2, .int a3, .int a4], [.int j0, .ref 149], sM Ln I L c s)) (fun j0 => (48, [.ref 148, .int a1, .int a2, .int a3, .int a4], [.int (I 149 (tn j0))], sM Ln I L c s)) (fun j0 => 0 ≤ j0 ∧ tn j0 < 2220) (((139 : Int32) + ((8 : Int32) * a1)) + (a4 - a4 / 8 * 8)) (fun j0 hc h => dd_Rn.chk 0 (c := 0 ≤ j0 ∧ tn j0 < 2220) (A := (48, [.ref 148, .int a1, .int a2, .int a3, .int a4], [.int (I 149 (tn j0))], sM Ln I L c s)) rfl hc h (by omega)) hc ?_
    refine dd_Rn.se (cf := (48, [.ref 148, .int a1, .int a2, .int a3, .int a4], [.int (I 149 (tn (((139 : Int32) + ((8 : Int32) * a1)) + (a4 - a4 / 8 * 8))))], sM Ln I L c s)) ?_
    refine dd_Rn.ite 0 (c := I 149 (tn (((139 : Int32) + ((8 : Int32) * a1)) + (a4 - a4 / 8 * 8))) = 0) (A := (51, [.ref 148, .int a1, .int a2, .int a3, .int a4], [], sM Ln I L c s)) (B := (57, [.ref 148, .int a1, .int a2, .int a3, .int a4], [], sM Ln I L c s)) rfl (fun hc => ?_) (fun hc => ?_) (by omega)
    · have h := h.1 hc
      exact dd_Rn.go 11 (cf' := (27, [.ref 148, .int a1, .int (if a2 < a3 + 1 then a3 + 1 else a2), .int (a3 + 1), .int (a4 + 1)], [], sM Ln I L c s)) rfl h (by omega)
    · have h := h.2 hc
      exact dd_Rn.go 8 (cf' := (27, [.ref 148, .int a1, .int (if a2 < 0 then 0 else a2), .int 0, .int (a4 + 1)], [], sM Ln I L c s)) rfl h (by omega)
