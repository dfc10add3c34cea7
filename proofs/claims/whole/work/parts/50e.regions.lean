/-! Region lemmas, written by program (gen/regions_all.py) -/
theorem w_X11_boy_0 {Ln d c s : Nat} {I : Nat → Nat → Int32} {L : Nat → Nat → Int64} {Q : dd_O → Prop} {a1 a2 : Int32} (hd : 28 ≤ d) (h : ((a1 < 0 → Q (none, .int 0, sM Ln (dd_u (dd_u I 148 (upd (I 148) 0 0)) 148 (upd (upd (I 148) 0 0) 0 1)) L c s)) ∧ (¬ (a1 < 0) → (((I 149 1) - 1 < a1 → Q (none, .int 0, sM Ln (dd_u (dd_u I 148 (upd (I 148) 0 0)) 148 (upd (upd (I 148) 0 0) 0 1)) L c s)) ∧ (¬ ((I 149 1) - 1 < a1) → ((a2 < 0 → Q (none, .int 0, sM Ln (dd_u (dd_u I 148 (upd (I 148) 0 0)) 148 (upd (upd (I 148) 0 0) 0 2)) L c s)) ∧ (¬ (a2 < 0) → (((8 : Int32) < a2 → Q (none, .int 0, sM Ln (dd_u (dd_u I 148 (upd (I 148) 0 0)) 148 (upd (upd (I 148) 0 0) 0 2)) L c s)) ∧ (¬ ((8 : Int32) < a2) → ((Int32.toInt a2 < 5 ∨ 8 < Int32.toInt a2 → ((0 ≤ ((187 : Int32) + ((5 : Int32) * a1)) + a2 ∧ tn (((187 : Int32) + ((5 : Int32) * a1)) + a2) < 2220) ∧ Q (none, .int (I 149 (tn (((187 : Int32) + ((5 : Int32) * a1)) + a2))), sM Ln (dd_u I 148 (upd (I 148) 0 0)) L c s))) ∧ (a2 = 5 → ((0 ≤ ((187 : Int32) + ((5 : Int32) * a1)) + 0 ∧ tn (((187 : Int32) + ((5 : Int32) * a1)) + 0) < 2220) ∧ dd_Ev (d - 1) m_X11_nearOf [.ref 148, .int (I 149 (tn (((187 : Int32) + ((5 : Int32) * a1)) + 0)))] (sM Ln (dd_u I 148 (upd (I 148) 0 0)) L c s) (dd_RI Ln c s (fun x1 I1 L1 => Q (none, .int x1, sM Ln I1 L1 c s))))) ∧ (a2 = 6 → ((0 ≤ ((187 : Int32) + ((5 : Int32) * a1)) + 3 ∧ tn (((187 : Int32) + ((5 : Int32) * a1)) + 3) < 2220) ∧ ((I 149 (tn (((187 : Int32) + ((5 : Int32) * a1)) + 3)) = 1 → Q (none, .int 0, sM Ln (dd_u I 148 (upd (I 148) 0 0)) L c s)) ∧ (¬ (I 149 (tn (((187 : Int32) + ((5 : Int32) * a1)) + 3)) = 1) → dd_Ev (d - 1) m_X11_hears [.ref 148, .int a1] (sM Ln (dd_u I 148 (upd (I 148) 0 0)) L c s) (dd_RI Ln c s (fun x2 I2 L2 => ((x2 = 0 → Q (none, .int 0, sM Ln I2 L2 c s)) ∧ (¬ (x2 = 0) → Q (none, .int 1, sM Ln I2 L2 c s))))))))) ∧ (a2 = 7 → dd_Ev (d - 1) m_X11_aheadOf [.ref 148, .int a1, .int 1] (sM Ln (dd_u I 148 (upd (I 148) 0 0)) L c s) (dd_RI Ln c s (fun x3 I3 L3 => Q (none, .int x3, sM Ln I3 L3 c s)))) ∧ (a2 = 8 → dd_Ev (d - 1) m_X11_shareOf [.ref 148, .int a1] (sM Ln (dd_u I 148 (upd (I 148) 0 0)) L c s) (dd_RI Ln c s (fun x4 I4 L4 => Q (none, .int x4, sM Ln I4 L4 c s)))))))))))))) : dd_Ev d m_X11_boy [.ref 148, .int a1, .int a2] (sM Ln I L c s) Q := by
  obtain ⟨e, rfl⟩ : ∃ e, d = e + 16 := ⟨d - 16, by omega⟩
  show dd_Rn (e + 16) m_X11_boy (0, [.ref 148, .int a1, .int a2], [], sM Ln I L c s) Q
  refine dd_Rn.sub 6 (pc := 8) (ls := [.ref 148, .int a1, .int a2]) (st := [.int a1, .ref 148, .ref 148]) (M := sM Ln (dd_u I 148 (upd (I 148) 0 0)) L c s) (x := m_X11_noBoy) (as := [.ref 148, .int a1]) (rest := [.ref 148]) rfl rfl rfl rfl ?_
  show dd_Rn (e + 15) m_X11_noBoy (0, [.ref 148, .int a1], [], sM Ln (dd_u I 148 (upd (I 148) 0 0)) L c s) _
  refine dd_Rn.sub 3 (pc := 3) (ls := [.ref 148, .int a1]) (st := [.ref 148, .int 0, .int a1]) (M := sM Ln (dd_u I 148 (upd (I 148) 0 0)) L c s) (x := m_X11_boys) (as := [.ref 148]) (rest := [.int 0, .int a1]) rfl rfl rfl rfl ?_
  show dd_Rn (e + 14) m_X11_boys (0, [.ref 148], [], sM Ln (dd_u I 148 (upd (I 148) 0 0)) L c s) _
  refine dd_Rn.retK 4 (pc := 6) (ls := [.ref 148]) (st := [.int (I 149 1)]) (M := sM Ln (dd_u I 148 (upd (I 148) 0 0)) L c s) (o := (none, .int (I 149 1), sM Ln (dd_u I 148 (upd (I 148) 0 0)) L c s)) rfl rfl (dd_Af.ret rfl ?_) (by omega)
  show dd_Rn (e + 15) m_X11_noBoy (6, [.ref 148, .int a1], [.int (I 149 1), .int 0, .int a1], sM Ln (dd_u I 148 (upd (I 148) 0 0)) L c s) _
  refine dd_Rn.sub 2 (pc := 8) (ls := [.ref 148, .int a1]) (st := [.int ((I 149 1) - 1), .int 0, .int a1]) (M := sM Ln (dd_u I 148 (upd (I 148) 0 0)) L c s) (x := m_X11_in) (as := [.int a1, .int 0, .int ((I 149 1) - 1)]) (rest := []) rfl rfl rfl rfl ?_
  show dd_Rn (e + 14) m_X11_in (0, [.int a1, .int 0, .int ((I 149 1) - 1)], [], sM Ln (dd_u I 148 (upd (I 148) 0 0)) L c s) _
  refine dd_Rn.ite 2 (c := a1 < 0) (A := (14, [.int a1, .int 0, .int ((I 149 1) - 1)], [], sM Ln (dd_u I 148 (upd (I 148) 0 0)) L c s)) (B := (5, [.int a1, .int 0, .int ((I 149 1) - 1)], [], sM Ln (dd_u I 148 (upd (I 148) 0 0)) L c s)) rfl (fun hc => ?_) (fun hc => ?_) (by omega)
  · have h := h.1 hc
    refine dd_Rn.retK 1 (pc := 15) (ls := [.int a1, .int 0, .int ((I 149 1) - 1)]) (st := [.int 0]) (M := sM Ln (dd_u I 148 (upd (I 148) 0 0)) L c s) (o := (none, .int 0, sM Ln (dd_u I 148 (upd (I 148) 0 0)) L c s)) rfl rfl (dd_Af.ret rfl ?_) (by omega)
    show dd_Rn (e + 15) m_X11_noBoy (11, [.ref 148, .int a1], [.int 0], sM Ln (dd_u I 148 (upd (I 148) 0 0)) L c s) _
    refine dd_Rn.retK 3 (pc := 19) (ls := [.ref 148, .int a1]) (st := [.int 1]) (M := sM Ln (dd_u I 148 (upd (I 148) 0 0)) L c s) (o := (none, .int 1, sM Ln (dd_u I 148 (upd (I 148) 0 0)) L c s)) rfl rfl (dd_Af.ret rfl ?_) (by omega)
    show dd_Rn (e + 16) m_X11_boy (11, [.ref 148, .int a1, .int a2], [.int 1, .ref 148], sM Ln (dd_u I 148 (upd (I 148) 0 0)) L c s) _
    refine dd_Rn.sub 1 (pc := 12) (ls := [.ref 148, .int a1, .int a2]) (st := [.int 1, .int 1, .ref 148]) (M := sM Ln (dd_u I 148 (upd (I 148) 0 0)) L c s) (x := m_X11_throwsIf) (as := [.ref 148, .int 1, .int 1]) (rest := []) rfl rfl rfl rfl ?_
    show dd_Rn (e + 15) m_X11_throwsIf (0, [.ref 148, .int 1, .int 1], [], sM Ln (dd_u I 148 (upd (I 148) 0 0)) L c s) _
    refine dd_Rn.retK 6 (pc := 10) (ls := [.ref 148, .int 1, .int 1]) (st := [.int 1]) (M := sM Ln (dd_u (dd_u I 148 (upd (I 148) 0 0)) 148 (upd (upd (I 148) 0 0) 0 1)) L c s) (o := (none, .int 1, sM Ln (dd_u (dd_u I 148 (upd (I 148) 0 0)) 148 (upd (upd (I 148) 0 0) 0 1)) L c s)) rfl rfl (dd_Af.ret rfl ?_) (by omega)
    show dd_Rn (e + 16) m_X11_boy (15, [.ref 148, .int a1, .int a2], [.int 1], sM Ln (dd_u (dd_u I 148 (upd (I 148) 0 0)) 148 (upd (upd (I 148) 0 0) 0 1)) L c s) _
    exact dd_Rn.retK 2 (pc := 42) (ls := [.ref 148, .int a1, .int a2]) (st := [.int 0]) (M := sM Ln (dd_u (dd_u I 148 (upd (I 148) 0 0)) 148 (upd (upd (I 148) 0 0) 0 1)) L c s) (o := (none, .int 0, sM Ln (dd_u (dd_u I 148 (upd (I 148) 0 0)) 148 (upd (upd (I 148) 0 0) 0 1)) L c s)) rfl rfl h (by omega)
  · have h := h.2 hc
    refine dd_Rn.ite 2 (c := (I 149 1) - 1 < a1) (A := (14, [.int a1, .int 0, .int ((I 149 1) - 1)], [], sM Ln (dd_u I 148 (upd (I 148) 0 0)) L c s)) (B := (10, [.int a1, .int 0, .int ((I 149 1) - 1)], [], sM Ln (dd_u I 148 (upd (I 148) 0 0)) L c s)) rfl (fun hc => ?_) (fun hc => ?_) (by omega)
    · have h := h.1 hc
      refine dd_Rn.retK 1 (pc := 15) (ls := [.int a1, .int 0, .int ((I 149 1) - 1)]) (st := [.int 0]) (M := sM Ln (dd_u I 148 (upd (I 148) 0 0)) L c s) (o := (none, .int 0, sM Ln (dd_u I 148 (upd (I 148) 0 0)) L c s)) rfl rfl (dd_Af.ret rfl ?_) (by omega)
      show dd_Rn (e + 15) m_X11_noBoy (11, [.ref 148, .int a1], [.int 0], sM Ln (dd_u I 148 (upd (I 148) 0 0)) L c s) _
      refine dd_Rn.retK 3 (pc := 19) (ls := [.ref 148, .int a1]) (st := [.int 1]) (M := sM Ln (dd_u I 148 (upd (I 148) 0 0)) L c s) (o := (none, .int 1, sM Ln (dd_u I 148 (upd (I 148) 0 0)) L c s)) rfl rfl (dd_Af.ret rfl ?_) (by omega)
      show dd_Rn (e + 16) m_X11_boy (11, [.ref 148, .int a1, .int a2], [.int 1, .ref 148], sM Ln (dd_u I 148 (upd (I 148) 0 0)) L c s) _
      refine dd_Rn.sub 1 (pc := 12) (ls := [.ref 148, .int a1, .int a2]) (st := [.int 1, .int 1, .ref 148]) (M := sM Ln (dd_u I 148 (upd (I 148) 0 0)) L c s) (x := m_X11_throwsIf) (as := [.ref 148, .int 1, .int 1]) (rest := []) rfl rfl rfl rfl ?_
      show dd_Rn (e + 15) m_X11_throwsIf (0, [.ref 148, .int 1, .int 1], [], sM Ln (dd_u I 148 (upd (I 148) 0 0)) L c s) _
      refine dd_Rn.retK 6 (pc := 10) (ls := [.ref 148, .int 1, .int 1]) (st := [.int 1]) (M := sM Ln (dd_u (dd_u I 148 (upd (I 148) 0 0)) 148 (upd (upd (I 148) 0 0) 0 1)) L c s) (o := (none, .int 1, sM Ln (dd_u (dd_u I 148 (upd (I 148) 0 0)) 148 (upd (upd (I 148) 0 0) 0 1)) L c s)) rfl rfl (dd_Af.ret rfl ?_) (by omega)
      show dd_Rn (e + 16) m_X11_boy (15, [.ref 148, .int a1, .int a2], [.int 1], sM Ln (dd_u (dd_u I 148 (upd (I 148) 0 0)) 148 (upd (upd (I 148) 0 0) 0 1)) L c s) _
      exact dd_Rn.retK 2 (pc := 42) (ls := [.ref 148, .int a1, .int a2]) (st := [.int 0]) (M := sM Ln (dd_u (dd_u I 148 (upd (I 148) 0 0)) 148 (upd (upd (I 148) 0 0) 0 1)) L c s) (o := (none, .int 0, sM Ln (dd_u (dd_u I 148 (upd (I 148) 0 0)) 148 (upd (upd (I 148) 0 0) 0 1)) L c s)) rfl rfl h (by omega)
    · have h := h.2 hc
      refine dd_Rn.retK 2 (pc := 15) (ls := [.int a1, .int 0, .int ((I 149 1) - 1)]) (st := [.int 1]) (M := sM Ln (dd_u I 148 (upd (I 148) 0 0)) L c s) (o := (none, .int 1, sM Ln (dd_u I 148 (upd (I 148) 0 0)) L c s)) rfl rfl (dd_Af.ret rfl ?_) (by omega)
      show dd_Rn (e + 15) m_X11_noBoy (11, [.ref 148, .int a1], [.int 1], sM Ln (dd_u I 148 (upd (I 148) 0 0)) L c s) _
      refine dd_Rn.retK 2 (pc := 19) (ls := [.ref 148, .int a1]) (st := [.int 0]) (M := sM Ln (dd_u I 148 (upd (I 148) 0 0)) L c s) (o := (none, .int 0, sM Ln (dd_u I 148 (upd (I 148) 0 0)) L c s)) rfl rfl (dd_Af.ret rfl ?_) (by omega)
      show dd_Rn (e + 16) m_X11_boy (11, [.ref 148, .int a1, .int a2], [.int 0, .ref 148], sM Ln (dd_u I 148 (upd (I 148) 0 0)) L c s) _
      refine dd_Rn.sub 1 (pc := 12) (ls := [.ref 148, .int a1, .int a2]) (st := [.int 1, .int 0, .ref 148]) (M := sM Ln (dd_u I 148 (upd (I 148) 0 0)) L c s) (x := m_X11_throwsIf) (as := [.ref 148, .int 0, .int 1]) (rest := []) rfl rfl rfl rfl ?_
      show dd_Rn (e + 15) m_X11_throwsIf (0, [.ref 148, .int 0, .int 1], [], sM Ln (dd_u I 148 (upd (I 148) 0 0)) L c s) _
      refine dd_Rn.retK 3 (pc := 10) (ls := [.ref 148, .int 0, .int 1]) (st := [.int 0]) (M := sM Ln (dd_u I 148 (upd (I 148) 0 0)) L c s) (o := (none, .int 0, sM Ln (dd_u I 148 (upd (I 148) 0 0)) L c s)) rfl rfl (dd_Af.ret rfl ?_) (by omega)
      show dd_Rn (e + 16) m_X11_boy (15, [.ref 148, .int a1, .int a2], [.int 0], sM Ln (dd_u I 148 (upd (I 148) 0 0)) L c s) _
      refine dd_Rn.sub 5 (pc := 23) (ls := [.ref 148, .int a1, .int a2]) (st := [.int 8, .int 0, .int a2, .ref 148]) (M := sM Ln (dd_u I 148 (upd (I 148) 0 0)) L c s) (x := m_X11_in) (as := [.int a2, .int 0, .int 8]) (rest := [.ref 148]) rfl rfl rfl rfl ?_
      show dd_Rn (e + 15) m_X11_in (0, [.int a2, .int 0, .int 8], [], sM Ln (dd_u I 148 (upd (I 148) 0 0)) L c s) _
      refine dd_Rn.ite 2 (c := a2 < 0) (A := (14, [.int a2, .int 0, .int 8], [], sM Ln (dd_u I 148 (upd (I 148) 0 0)) L c s)) (B := (5, [.int a2, .int 0, .int 8], [], sM Ln (dd_u I 148 (upd (I 148) 0 0)) L c s)) rfl (fun hc => ?_) (fun hc => ?_) (by omega)
      · have h := h.1 hc
        refine dd_Rn.retK 1 (pc := 15) (ls := [.int a2, .int 0, .int 8]) (st := [.int 0]) (M := sM Ln (dd_u I 148 (upd (I 148) 0 0)) L c s) (o := (none, .int 0, sM Ln (dd_u I 148 (upd (I 148) 0 0)) L c s)) rfl rfl (dd_Af.ret rfl ?_) (by omega)
        show dd_Rn (e + 16) m_X11_boy (26, [.ref 148, .int a1, .int a2], [.int 0, .ref 148], sM Ln (dd_u I 148 (upd (I 148) 0 0)) L c s) _
        refine dd_Rn.sub 4 (pc := 35) (ls := [.ref 148, .int a1, .int a2]) (st := [.int 2, .int 1, .ref 148]) (M := sM Ln (dd_u I 148 (upd (I 148) 0 0)) L c s) (x := m_X11_throwsIf) (as := [.ref 148, .int 1, .int 2]) (rest := []) rfl rfl rfl rfl ?_
        show dd_Rn (e + 15) m_X11_throwsIf (0, [.ref 148, .int 1, .int 2], [], sM Ln (dd_u I 148 (upd (I 148) 0 0)) L c s) _
        refine dd_Rn.retK 6 (pc := 10) (ls := [.ref 148, .int 1, .int 2]) (st := [.int 1]) (M := sM Ln (dd_u (dd_u I 148 (upd (I 148) 0 0)) 148 (upd (upd (I 148) 0 0) 0 2)) L c s) (o := (none, .int 1, sM Ln (dd_u (dd_u I 148 (upd (I 148) 0 0)) 148 (upd (upd (I 148) 0 0) 0 2)) L c s)) rfl rfl (dd_Af.ret rfl ?_) (by omega)
        show dd_Rn (e + 16) m_X11_boy (38, [.ref 148, .int a1, .int a2], [.int 1], sM Ln (dd_u (dd_u I 148 (upd (I 148) 0 0)) 148 (upd (upd (I 148) 0 0) 0 2)) L c s) _
        exact dd_Rn.retK 2 (pc := 42) (ls := [.ref 148, .int a1, .int a2]) (st := [.int 0]) (M := sM Ln (dd_u (dd_u I 148 (upd (I 148) 0 0)) 148 (upd (upd (I 148) 0 0) 0 2)) L c s) (o := (none, .int 0, sM Ln (dd_u (dd_u I 148 (upd (I 148) 0 0)) 148 (upd (upd (I 148) 0 0) 0 2)) L c s)) rfl rfl h (by omega)
      · have h := h.2 hc
        refine dd_Rn.ite 2 (c := (8 : Int32) < a2) (A := (14, [.int a2, .int 0, .int 8], [], sM Ln (dd_u I 148 (upd (I 148) 0 0)) L c s)) (B := (10, [.int a2, .int 0, .int 8], [], sM Ln (dd_u I 148 (upd (I 148) 0 0)) L c s)) rfl (fun hc => ?_) (fun hc => ?_) (by omega)
        · have h := h.1 hc
          refine dd_Rn.retK 1 (pc := 15) (ls := [.int a2, .int 0, .int 8]) (st := [.int 0]) (M := sM Ln (dd_u I 148 (upd (I 148) 0 0)) L c s) (o := (none, .int 0, sM Ln (dd_u I 148 (upd (I 148) 0 0)) L c s)) rfl rfl (dd_Af.ret rfl ?_) (by omega)
          show dd_Rn (e + 16) m_X11_boy (26, [.ref 148, .int a1, .int a2], [.int 0, .ref 148], sM Ln (dd_u I 148 (upd (I 148) 0 0)) L c s) _
          refine dd_Rn.sub 4 (pc := 35) (ls := [.ref 148, .int a1, .int a2]) (st := [.int 2, .int 1, .ref 148]) (M := sM Ln (dd_u I 148 (upd (I 148) 0 0)) L c s) (x := m_X11_throwsIf) (as := [.ref 148, .int 1, .int 2]) (rest := []) rfl rfl rfl rfl ?_
          show dd_Rn (e + 15) m_X11_throwsIf (0, [.ref 148, .int 1, .int 2], [], sM Ln (dd_u I 148 (upd (I 148) 0 0)) L c s) _
          refine dd_Rn.retK 6 (pc := 10) (ls := [.ref 148, .int 1, .int 2]) (st := [.int 1]) (M := sM Ln (dd_u (dd_u I 148 (upd (I 148) 0 0)) 148 (upd (upd (I 148) 0 0) 0 2)) L c s) (o := (none, .int 1, sM Ln (dd_u (dd_u I 148 (upd (I 148) 0 0)) 148 (upd (upd (I 148) 0 0) 0 2)) L c s)) rfl rfl (dd_Af.ret rfl ?_) (by omega)
          show dd_Rn (e + 16) m_X11_boy (38, [.ref 148, .int a1, .int a2], [.int 1], sM Ln (dd_u (dd_u I 148 (upd (I 148) 0 0)) 148 (upd (upd (I 148) 0 0) 0 2)) L c s) _
          exact dd_Rn.retK 2 (pc := 42) (ls := [.ref 148, .int a1, .int a2]) (st := [.int 0]) (M := sM Ln (dd_u (dd_u I 148 (upd (I 148) 0 0)) 148 (upd (upd (I 148) 0 0) 0 2)) L c s) (o := (none, .int 0, sM Ln (dd_u (dd_u I 148 (upd (I 148) 0 0)) 148 (upd (upd (I 148) 0 0) 0 2)) L c s)) rfl rfl h (by omega)
        · have h := h.2 hc
          refine dd_Rn.retK 2 (pc := 15) (ls := [.int a2, .int 0, .int 8]) (st := [.int 1]) (M := sM Ln (dd_u I 148 (upd (I 148) 0 0)) L c s) (o := (none, .int 1, sM Ln (dd_u I 148 (upd (I 148) 0 0)) L c s)) rfl rfl (dd_Af.ret rfl ?_) (by omega)
          show dd_Rn (e + 16) m_X11_boy (26, [.ref 148, .int a1, .int a2], [.int 1, .ref 148], sM Ln (dd_u I 148 (upd (I 148) 0 0)) L c s) _
          refine dd_Rn.sub 3 (pc := 35) (ls := [.ref 148, .int a1, .int a2]) (st := [.int 2, .int 0, .ref 148]) (M := sM Ln (dd_u I 148 (upd (I 148) 0 0)) L c s) (x := m_X11_throwsIf) (as := [.ref 148, .int 0, .int 2]) (rest := []) rfl rfl rfl rfl ?_
          show dd_Rn (e + 15) m_X11_throwsIf (0, [.ref 148, .int 0, .int 2], [], sM Ln (dd_u I 148 (upd (I 148) 0 0)) L c s) _
          refine dd_Rn.retK 3 (pc := 10) (ls := [.ref 148, .int 0, .int 2]) (st := [.int 0]) (M := sM Ln (dd_u I 148 (upd (I 148) 0 0)) L c s) (o := (none, .int 0, sM Ln (dd_u I 148 (upd (I 148) 0 0)) L c s)) rfl rfl (dd_Af.ret rfl ?_) (by omega)
          show dd_Rn (e + 16) m_X11_boy (38, [.ref 148, .int a1, .int a2], [.int 0], sM Ln (dd_u I 148 (upd (I 148) 0 0)) L c s) _
          refine dd_Rn.go 2 (cf' := (44, [.ref 148, .int a1, .int a2], [.int a2], sM Ln (dd_u I 148 (upd (I 148) 0 0)) L c s)) rfl ?_ (by omega)
          by_cases hs : Int32.toInt a2 < 5 ∨ 8 < Int32.toInt a2
          · have h := h.1 hs
            refine dd_Rn.pos 0 (c := Int32.toInt a2 < 5 ∨ 8 < Int32.toInt a2) (A := (122, [.ref 148, .int a1, .int a2], [], sM Ln (dd_u I 148 (upd (I 148) 0 0)) L c s)) rfl hs ?_ (by omega)
            refine dd_Rn.sub 3 (pc := 125) (ls := [.ref 148, .int a1, .int a2]) (st := [.int a2, .int a1, .ref 148]) (M := sM Ln (dd_u I 148 (upd (I 148) 0 0)) L c s) (x := m_X11_of) (as := [.ref 148, .int a1, .int a2]) (rest := []) rfl rfl rfl rfl ?_
            show dd_Rn (e + 15) m_X11_of (0, [.ref 148, .int a1, .int a2], [], sM Ln (dd_u I 148 (upd (I 148) 0 0)) L c s) _
            refine dd_Rn.sub 4 (pc := 6) (ls := [.ref 148, .int a1, .int a2]) (st := [.int a2, .int a1, .ref 149]) (M := sM Ln (dd_u I 148 (upd (I 148) 0 0)) L c s) (x := m_X11_at) (as := [.int a1, .int a2]) (rest := [.ref 149]) rfl rfl rfl rfl ?_
            show dd_Rn (e + 14) m_X11_at (0, [.int a1, .int a2], [], sM Ln (dd_u I 148 (upd (I 148) 0 0)) L c s) _
            refine dd_Rn.retK 7 (pc := 9) (ls := [.int a1, .int a2]) (st := [.int (((187 : Int32) + ((5 : Int32) * a1)) + a2)]) (M := sM Ln (dd_u I 148 (upd (I 148) 0 0)) L c s) (o := (none, .int (((187 : Int32) + ((5 : Int32) * a1)) + a2), sM Ln (dd_u I 148 (upd (I 148) 0 0)) L c s)) rfl rfl (dd_Af.ret rfl ?_) (by omega)
            show dd_Rn (e + 15) m_X11_of (9, [.ref 148, .int a1, .int a2], [.int (((187 : Int32) + ((5 : Int32) * a1)) + a2), .ref 149], sM Ln (dd_u I 148 (upd (I 148) 0 0)) L c s) _
            obtain ⟨hc, h⟩ := h
            refine dd_Rn.ci (fun j0 => (9, [.ref 148, .int a1, .int a2], [.int j0, .ref 149], sM Ln (dd_u I 148 (upd (I 148) 0 0)) L c s)) (fun j0 => (10, [.ref 148, .int a1, .int a2], [.int (I 149 (tn j0))], sM Ln (dd_u I 148 (upd (I 148) 0 0)) L c s)) (fun j0 => 0 ≤ j0 ∧ tn j0 < 2220) (((187 : Int32) + ((5 : Int32) * a1)) + a2) (fun j0 hc h => dd_Rn.chk 0 (c := 0 ≤ j0 ∧ tn j0 < 2220) (A := (10, [.ref 148, .int a1, .int a2], [.int (I 149 (tn j0))], sM Ln (dd_u I 148 (upd (I 148) 0 0)) L c s)) rfl hc h (by omega)) hc ?_
            refine dd_Rn.se (cf := (10, [.ref 148, .int a1, .int a2], [.int (I 149 (tn (((187 : Int32) + ((5 : Int32) * a1)) + a2)))], sM Ln (dd_u I 148 (upd (I 148) 0 0)) L c s)) ?_
            refine dd_Rn.retK 0 (pc := 10) (ls := [.ref 148, .int a1, .int a2]) (st := [.int (I 149 (tn (((187 : Int32) + ((5 : Int32) * a1)) + a2)))]) (M := sM Ln (dd_u I 148 (upd (I 148) 0 0)) L c s) (o := (none, .int (I 149 (tn (((187 : Int32) + ((5 : Int32) * a1)) + a2))), sM Ln (dd_u I 148 (upd (I 148) 0 0)) L c s)) rfl rfl (dd_Af.ret rfl ?_) (by omega)
            show dd_Rn (e + 16) m_X11_boy (128, [.ref 148, .int a1, .int a2], [.int (I 149 (tn (((187 : Int32) + ((5 : Int32) * a1)) + a2)))], sM Ln (dd_u I 148 (upd (I 148) 0 0)) L c s) _
            exact dd_Rn.retK 0 (pc := 128) (ls := [.ref 148, .int a1, .int a2]) (st := [.int (I 149 (tn (((187 : Int32) + ((5 : Int32) * a1)) + a2)))]) (M := sM Ln (dd_u I 148 (upd (I 148) 0 0)) L c s) (o := (none, .int (I 149 (tn (((187 : Int32) + ((5 : Int32) * a1)) + a2))), sM Ln (dd_u I 148 (upd (I 148) 0 0)) L c s)) rfl rfl h (by omega)
          have h := h.2
          have hs : Int32.toInt a2 = 5 ∨ Int32.toInt a2 = 6 ∨ Int32.toInt a2 = 7 ∨ Int32.toInt a2 = 8 := by omega
          rcases hs with hs | hs
          · have hv : a2 = 5 := Int32.toInt_inj.mp (by rw [hs]; rfl)
            have h := h.1 hv
            refine dd_Rn.lit hv ?_
            refine dd_Rn.go 1 (cf' := (76, [.ref 148, .int a1, .int a2], [], sM Ln (dd_u I 148 (upd (I 148) 0 0)) L c s)) rfl ?_ (by omega)
            refine dd_Rn.sub 4 (pc := 80) (ls := [.ref 148, .int a1, .int a2]) (st := [.int 0, .int a1, .ref 148, .ref 148]) (M := sM Ln (dd_u I 148 (upd (I 148) 0 0)) L c s) (x := m_X11_of) (as := [.ref 148, .int a1, .int 0]) (rest := [.ref 148]) rfl rfl rfl rfl ?_
            show dd_Rn (e + 15) m_X11_of (0, [.ref 148, .int a1, .int 0], [], sM Ln (dd_u I 148 (upd (I 148) 0 0)) L c s) _
            refine dd_Rn.sub 4 (pc := 6) (ls := [.ref 148, .int a1, .int 0]) (st := [.int 0, .int a1, .ref 149]) (M := sM Ln (dd_u I 148 (upd (I 148) 0 0)) L c s) (x := m_X11_at) (as := [.int a1, .int 0]) (rest := [.ref 149]) rfl rfl rfl rfl ?_
            show dd_Rn (e + 14) m_X11_at (0, [.int a1, .int 0], [], sM Ln (dd_u I 148 (upd (I 148) 0 0)) L c s) _
            refine dd_Rn.retK 7 (pc := 9) (ls := [.int a1, .int 0]) (st := [.int (((187 : Int32) + ((5 : Int32) * a1)) + 0)]) (M := sM Ln (dd_u I 148 (upd (I 148) 0 0)) L c s) (o := (none, .int (((187 : Int32) + ((5 : Int32) * a1)) + 0), sM Ln (dd_u I 148 (upd (I 148) 0 0)) L c s)) rfl rfl (dd_Af.ret rfl ?_) (by omega)
            show dd_Rn (e + 15) m_X11_of (9, [.ref 148, .int a1, .int 0], [.int (((187 : Int32) + ((5 : Int32) * a1)) + 0), .ref 149], sM Ln (dd_u I 148 (upd (I 148) 0 0)) L c s) _
            obtain ⟨hc, h⟩ := h
            refine dd_Rn.ci (fun j0 => (9, [.ref 148, .int a1, .int 0], [.int j0, .ref 149], sM Ln (dd_u I 148 (upd (I 148) 0 0)) L c s)) (fun j0 => (10, [.ref 148, .int a1, .int 0], [.int (I 149 (tn j0))], sM Ln (dd_u I 148 (upd (I 148) 0 0)) L c s)) (fun j0 => 0 ≤ j0 ∧ tn j0 < 2220) (((187 : Int32) + ((5 : Int32) * a1)) + 0) (fun j0 hc h => dd_Rn.chk 0 (c := 0 ≤ j0 ∧ tn j0 < 2220) (A := (10, [.ref 148, .int a1, .int 0], [.int (I 149 (tn j0))], sM Ln (dd_u I 148 (upd (I 148) 0 0)) L c s)) rfl hc h (by omega)) hc ?_
            refine dd_Rn.se (cf := (10, [.ref 148, .int a1, .int 0], [.int (I 149 (tn (((187 : Int32) + ((5 : Int32) * a1)) + 0)))], sM Ln (dd_u I 148 (upd (I 148) 0 0)) L c s)) ?_
            refine dd_Rn.retK 0 (pc := 10) (ls := [.ref 148, .int a1, .int 0]) (st := [.int (I 149 (tn (((187 : Int32) + ((5 : Int32) * a1)) + 0)))]) (M := sM Ln (dd_u I 148 (upd (I 148) 0 0)) L c s) (o := (none, .int (I 149 (tn (((187 : Int32) + ((5 : Int32) * a1)) + 0))), sM Ln (dd_u I 148 (upd (I 148) 0 0)) L c s)) rfl rfl (dd_Af.ret rfl ?_) (by omega)
            show dd_Rn (e + 16) m_X11_boy (83, [.ref 148, .int a1, .int a2], [.int (I 149 (tn (((187 : Int32) + ((5 : Int32) * a1)) + 0))), .ref 148], sM Ln (dd_u I 148 (upd (I 148) 0 0)) L c s) _
            refine dd_Rn.cI 0 (pc := 83) (ls := [.ref 148, .int a1, .int a2]) (st := [.int (I 149 (tn (((187 : Int32) + ((5 : Int32) * a1)) + 0))), .ref 148]) (x := m_X11_nearOf) (as := [.ref 148, .int (I 149 (tn (((187 : Int32) + ((5 : Int32) * a1)) + 0)))]) (rest := []) rfl rfl rfl rfl h ?_
            intro x1 I1 L1 h
            show dd_Rn (e + 16) m_X11_boy (86, [.ref 148, .int a1, .int a2], [.int x1], sM Ln I1 L1 c s) _
            exact dd_Rn.retK 0 (pc := 86) (ls := [.ref 148, .int a1, .int a2]) (st := [.int x1]) (M := sM Ln I1 L1 c s) (o := (none, .int x1, sM Ln I1 L1 c s)) rfl rfl h (by omega)
          have h := h.2
          rcases hs with hs | hs
          · have hv : a2 = 6 := Int32.toInt_inj.mp (by rw [hs]; rfl)
            have h := h.1 hv
            refine dd_Rn.lit hv ?_
            refine dd_Rn.go 1 (cf' := (87, [.ref 148, .int a1, .int a2], [], sM Ln (dd_u I 148 (upd (I 148) 0 0)) L c s)) rfl ?_ (by omega)
            refine dd_Rn.sub 2 (pc := 89) (ls := [.ref 148, .int a1, .int a2]) (st := [.int a1, .ref 148]) (M := sM Ln (dd_u I 148 (upd (I 148) 0 0)) L c s) (x := m_X11_isIn) (as := [.ref 148, .int a1]) (rest := []) rfl rfl rfl rfl ?_
            show dd_Rn (e + 15) m_X11_isIn (0, [.ref 148, .int a1], [], sM Ln (dd_u I 148 (upd (I 148) 0 0)) L c s) _
            refine dd_Rn.sub 3 (pc := 3) (ls := [.ref 148, .int a1]) (st := [.int 3, .int a1, .ref 148]) (M := sM Ln (dd_u I 148 (upd (I 148) 0 0)) L c s) (x := m_X11_of) (as := [.ref 148, .int a1, .int 3]) (rest := []) rfl rfl rfl rfl ?_
            show dd_Rn (e + 14) m_X11_of (0, [.ref 148, .int a1, .int 3], [], sM Ln (dd_u I 148 (upd (I 148) 0 0)) L c s) _
            refine dd_Rn.sub 4 (pc := 6) (ls := [.ref 148, .int a1, .int 3]) (st := [.int 3, .int a1, .ref 149]) (M := sM Ln (dd_u I 148 (upd (I 148) 0 0)) L c s) (x := m_X11_at) (as := [.int a1, .int 3]) (rest := [.ref 149]) rfl rfl rfl rfl ?_
            show dd_Rn (e + 13) m_X11_at (0, [.int a1, .int 3], [], sM Ln (dd_u I 148 (upd (I 148) 0 0)) L c s) _
            refine dd_Rn.retK 7 (pc := 9) (ls := [.int a1, .int 3]) (st := [.int (((187 : Int32) + ((5 : Int32) * a1)) + 3)]) (M := sM Ln (dd_u I 148 (upd (I 148) 0 0)) L c s) (o := (none, .int (((187 : Int32) + ((5 : Int32) * a1)) + 3), sM Ln (dd_u I 148 (upd (I 148) 0 0)) L c s)) rfl rfl (dd_Af.ret rfl ?_) (by omega)
            show dd_Rn (e + 14) m_X11_of (9, [.ref 148, .int a1, .int 3], [.int (((187 : Int32) + ((5 : Int32) * a1)) + 3), .ref 149], sM Ln (dd_u I 148 (upd (I 148) 0 0)) L c s) _
            obtain ⟨hc, h⟩ := h
            refine dd_Rn.ci (fun j0 => (9, [.ref 148, .int a1, .int 3], [.int j0, .ref 149], sM Ln (dd_u I 148 (upd (I 148) 0 0)) L c s)) (fun j0 => (10, [.ref 148, .int a1, .int 3], [.int (I 149 (tn j0))], sM Ln (dd_u I 148 (upd (I 148) 0 0)) L c s)) (fun j0 => 0 ≤ j0 ∧ tn j0 < 2220) (((187 : Int32) + ((5 : Int32) * a1)) + 3) (fun j0 hc h => dd_Rn.chk 0 (c := 0 ≤ j0 ∧ tn j0 < 2220) (A := (10, [.ref 148, .int a1, .int 3], [.int (I 149 (tn j0))], sM Ln (dd_u I 148 (upd (I 148) 0 0)) L c s)) rfl hc h (by omega)) hc ?_
            refine dd_Rn.se (cf := (10, [.ref 148, .int a1, .int 3], [.int (I 149 (tn (((187 : Int32) + ((5 : Int32) * a1)) + 3)))], sM Ln (dd_u I 148 (upd (I 148) 0 0)) L c s)) ?_
            refine dd_Rn.retK 0 (pc := 10) (ls := [.ref 148, .int a1, .int 3]) (st := [.int (I 149 (tn (((187 : Int32) + ((5 : Int32) * a1)) + 3)))]) (M := sM Ln (dd_u I 148 (upd (I 148) 0 0)) L c s) (o := (none, .int (I 149 (tn (((187 : Int32) + ((5 : Int32) * a1)) + 3))), sM Ln (dd_u I 148 (upd (I 148) 0 0)) L c s)) rfl rfl (dd_Af.ret rfl ?_) (by omega)
            show dd_Rn (e + 15) m_X11_isIn (6, [.ref 148, .int a1], [.int (I 149 (tn (((187 : Int32) + ((5 : Int32) * a1)) + 3)))], sM Ln (dd_u I 148 (upd (I 148) 0 0)) L c s) _
            refine dd_Rn.ite 1 (c := I 149 (tn (((187 : Int32) + ((5 : Int32) * a1)) + 3)) = 1) (A := (10, [.ref 148, .int a1], [], sM Ln (dd_u I 148 (upd (I 148) 0 0)) L c s)) (B := (14, [.ref 148, .int a1], [], sM Ln (dd_u I 148 (upd (I 148) 0 0)) L c s)) rfl (fun hc => ?_) (fun hc => ?_) (by omega)
            · have h := h.1 hc
              refine dd_Rn.retK 2 (pc := 15) (ls := [.ref 148, .int a1]) (st := [.int 1]) (M := sM Ln (dd_u I 148 (upd (I 148) 0 0)) L c s) (o := (none, .int 1, sM Ln (dd_u I 148 (upd (I 148) 0 0)) L c s)) rfl rfl (dd_Af.ret rfl ?_) (by omega)
              show dd_Rn (e + 16) m_X11_boy (92, [.ref 148, .int a1, .int a2], [.int 1], sM Ln (dd_u I 148 (upd (I 148) 0 0)) L c s) _
              exact dd_Rn.retK 2 (pc := 108) (ls := [.ref 148, .int a1, .int a2]) (st := [.int 0]) (M := sM Ln (dd_u I 148 (upd (I 148) 0 0)) L c s) (o := (none, .int 0, sM Ln (dd_u I 148 (upd (I 148) 0 0)) L c s)) rfl rfl h (by omega)
            · have h := h.2 hc
              refine dd_Rn.retK 1 (pc := 15) (ls := [.ref 148, .int a1]) (st := [.int 0]) (M := sM Ln (dd_u I 148 (upd (I 148) 0 0)) L c s) (o := (none, .int 0, sM Ln (dd_u I 148 (upd (I 148) 0 0)) L c s)) rfl rfl (dd_Af.ret rfl ?_) (by omega)
              show dd_Rn (e + 16) m_X11_boy (92, [.ref 148, .int a1, .int a2], [.int 0], sM Ln (dd_u I 148 (upd (I 148) 0 0)) L c s) _
              refine dd_Rn.cI 3 (pc := 97) (ls := [.ref 148, .int a1, .int a2]) (st := [.int a1, .ref 148]) (x := m_X11_hears) (as := [.ref 148, .int a1]) (rest := []) rfl rfl rfl rfl h ?_
              intro x2 I2 L2 h
              show dd_Rn (e + 16) m_X11_boy (100, [.ref 148, .int a1, .int a2], [.int x2], sM Ln I2 L2 c s) _
              refine dd_Rn.ite 0 (c := x2 = 0) (A := (107, [.ref 148, .int a1, .int a2], [], sM Ln I2 L2 c s)) (B := (103, [.ref 148, .int a1, .int a2], [], sM Ln I2 L2 c s)) rfl (fun hc => ?_) (fun hc => ?_) (by omega)
              · have h := h.1 hc
                exact dd_Rn.retK 1 (pc := 108) (ls := [.ref 148, .int a1, .int a2]) (st := [.int 0]) (M := sM Ln I2 L2 c s) (o := (none, .int 0, sM Ln I2 L2 c s)) rfl rfl h (by omega)
              · have h := h.2 hc
                exact dd_Rn.retK 2 (pc := 108) (ls := [.ref 148, .int a1, .int a2]) (st := [.int 1]) (M := sM Ln I2 L2 c s) (o := (none, .int 1, sM Ln I2 L2 c s)) rfl rfl h (by omega)
          have h := h.2
          rcases hs with hs | hs
          · have hv : a2 = 7 := Int32.toInt_inj.mp (by rw [hs]; rfl)
            have h := h.1 hv
            refine dd_Rn.lit hv ?_
            refine dd_Rn.go 1 (cf' := (109, [.ref 148, .int a1, .int a2], [], sM Ln (dd_u I 148 (upd (I 148) 0 0)) L c s)) rfl ?_ (by omega)
            refine dd_Rn.cI 3 (pc := 112) (ls := [.ref 148, .int a1, .int a2]) (st := [.int 1, .int a1, .ref 148]) (x := m_X11_aheadOf) (as := [.ref 148, .int a1, .int 1]) (rest := []) rfl rfl rfl rfl h ?_
            intro x3 I3 L3 h
            show dd_Rn (e + 16) m_X11_boy (115, [.ref 148, .int a1, .int a2], [.int x3], sM Ln I3 L3 c s) _
            exact dd_Rn.retK 0 (pc := 115) (ls := [.ref 148, .int a1, .int a2]) (st := [.int x3]) (M := sM Ln I3 L3 c s) (o := (none, .int x3, sM Ln I3 L3 c s)) rfl rfl h (by omega)
          have h := h.2
          · have hv : a2 = 8 := Int32.toInt_inj.mp (by rw [hs]; rfl)
            have h := h hv
            refine dd_Rn.lit hv ?_
            refine dd_Rn.go 1 (cf' := (116, [.ref 148, .int a1, .int a2], [], sM Ln (dd_u I 148 (upd (I 148) 0 0)) L c s)) rfl ?_ (by omega)
            refine dd_Rn.cI 2 (pc := 118) (ls := [.ref 148, .int a1, .int a2]) (st := [.int a1, .ref 148]) (x := m_X11_shareOf) (as := [.ref 148, .int a1]) (rest := []) rfl rfl rfl rfl h ?_
            intro x4 I4 L4 h
            show dd_Rn (e + 16) m_X11_boy (121, [.ref 148, .int a1, .int a2], [.int x4], sM Ln I4 L4 c s) _
            exact dd_Rn.retK 0 (pc := 121) (ls := [.ref 148, .int a1, .int a2]) (st := [.int x4]) (M := sM Ln I4 L4 c s) (o := (none, .int x4, sM Ln I4 L4 c s)) rfl rfl h (by omega)

theorem w_X11_fire_0 {Ln d c s : Nat} {I : Nat → Nat → Int32} {L : Nat → Nat → Int64} {Q : dd_O → Prop} {a1 : Int32} (hd : 28 ≤ d) (h : ((a1 < 0 → Q (none, .int 0, sM Ln (dd_u (dd_u I 148 (upd (I 148) 0 0)) 148 (upd (upd (I 148) 0 0) 0 1)) L c s)) ∧ (¬ (a1 < 0) → (((63 : Int32) < a1 → Q (none, .int 0, sM Ln (dd_u (dd_u I 148 (upd (I 148) 0 0)) 148 (upd (upd (I 148) 0 0) 0 1)) L c s)) ∧ (¬ ((63 : Int32) < a1) → ((0 ≤ (11 : Int32) + a1 ∧ tn ((11 : Int32) + a1) < 2220) ∧ ((I 149 (tn ((11 : Int32) + a1)) = 1 → Q (none, .int 0, sM Ln (dd_u (dd_u I 148 (upd (I 148) 0 0)) 148 (upd (upd (I 148) 0 0) 0 2)) L c s)) ∧ (¬ (I 149 (tn ((11 : Int32) + a1)) = 1) → dd_Ev (d - 1) m_X11_remembers [.ref 148] (sM Ln (dd_u I 148 (upd (I 148) 0 0)) L c s) (dd_RV Ln c s (fun I1 L1 => dd_Ev (d - 1) m_X11_firesAt [.ref 148, .int a1] (sM Ln I1 L1 c s) (dd_RV Ln c s (fun I2 L2 => Q (none, .int (I1 149 4), sM Ln I2 L2 c s))))))))))))) : dd_Ev d m_X11_fire [.ref 148, .int a1] (sM Ln I L c s) Q := by
  obtain ⟨e, rfl⟩ : ∃ e, d = e + 16 := ⟨d - 16, by omega⟩
  show dd_Rn (e + 16) m_X11_fire (0, [.ref 148, .int a1, .null], [], sM Ln I L c s) Q
  refine dd_Rn.sub 5 (pc := 7) (ls := [.ref 148, .int a1, .null]) (st := [.int a1, .ref 148]) (M := sM Ln (dd_u I 148 (upd (I 148) 0 0)) L c s) (x := m_X11_noCell) (as := [.int a1]) (rest := [.ref 148]) rfl rfl rfl rfl ?_
  show dd_Rn (e + 15) m_X11_noCell (0, [.int a1], [], sM Ln (dd_u I 148 (upd (I 148) 0 0)) L c s) _
  refine dd_Rn.sub 3 (pc := 4) (ls := [.int a1]) (st := [.int 63, .int 0, .int a1]) (M := sM Ln (dd_u I 148 (upd (I 148) 0 0)) L c s) (x := m_X11_in) (as := [.int a1, .int 0, .int 63]) (rest := []) rfl rfl rfl rfl ?_
  show dd_Rn (e + 14) m_X11_in (0, [.int a1, .int 0, .int 63], [], sM Ln (dd_u I 148 (upd (I 148) 0 0)) L c s) _
  refine dd_Rn.ite 2 (c := a1 < 0) (A := (14, [.int a1, .int 0, .int 63], [], sM Ln (dd_u I 148 (upd (I 148) 0 0)) L c s)) (B := (5, [.int a1, .int 0, .int 63], [], sM Ln (dd_u I 148 (upd (I 148) 0 0)) L c s)) rfl (fun hc => ?_) (fun hc => ?_) (by omega)
  · have h := h.1 hc
    refine dd_Rn.retK 1 (pc := 15) (ls := [.int a1, .int 0, .int 63]) (st := [.int 0]) (M := sM Ln (dd_u I 148 (upd (I 148) 0 0)) L c s) (o := (none, .int 0, sM Ln (dd_u I 148 (upd (I 148) 0 0)) L c s)) rfl rfl (dd_Af.ret rfl ?_) (by omega)
    show dd_Rn (e + 15) m_X11_noCell (7, [.int a1], [.int 0], sM Ln (dd_u I 148 (upd (I 148) 0 0)) L c s) _
    refine dd_Rn.retK 3 (pc := 15) (ls := [.int a1]) (st := [.int 1]) (M := sM Ln (dd_u I 148 (upd (I 148) 0 0)) L c s) (o := (none, .int 1, sM Ln (dd_u I 148 (upd (I 148) 0 0)) L c s)) rfl rfl (dd_Af.ret rfl ?_) (by omega)
    show dd_Rn (e + 16) m_X11_fire (10, [.ref 148, .int a1, .null], [.int 1, .ref 148], sM Ln (dd_u I 148 (upd (I 148) 0 0)) L c s) _
    refine dd_Rn.sub 1 (pc := 11) (ls := [.ref 148, .int a1, .null]) (st := [.int 1, .int 1, .ref 148]) (M := sM Ln (dd_u I 148 (upd (I 148) 0 0)) L c s) (x := m_X11_throwsIf) (as := [.ref 148, .int 1, .int 1]) (rest := []) rfl rfl rfl rfl ?_
    show dd_Rn (e + 15) m_X11_throwsIf (0, [.ref 148, .int 1, .int 1], [], sM Ln (dd_u I 148 (upd (I 148) 0 0)) L c s) _
    refine dd_Rn.retK 6 (pc := 10) (ls := [.ref 148, .int 1, .int 1]) (st := [.int 1]) (M := sM Ln (dd_u (dd_u I 148 (upd (I 148) 0 0)) 148 (upd (upd (I 148) 0 0) 0 1)) L c s) (o := (none, .int 1, sM Ln (dd_u (dd_u I 148 (upd (I 148) 0 0)) 148 (upd (upd (I 148) 0 0) 0 1)) L c s)) rfl rfl (dd_Af.ret rfl ?_) (by omega)
    show dd_Rn (e + 16) m_X11_fire (14, [.ref 148, .int a1, .null], [.int 1], sM Ln (dd_u (dd_u I 148 (upd (I 148) 0 0)) 148 (upd (upd (I 148) 0 0) 0 1)) L c s) _
    exact dd_Rn.retK 2 (pc := 31) (ls := [.ref 148, .int a1, .null]) (st := [.int 0]) (M := sM Ln (dd_u (dd_u I 148 (upd (I 148) 0 0)) 148 (upd (upd (I 148) 0 0) 0 1)) L c s) (o := (none, .int 0, sM Ln (dd_u (dd_u I 148 (upd (I 148) 0 0)) 148 (upd (upd (I 148) 0 0) 0 1)) L c s)) rfl rfl h (by omega)
  · have h := h.2 hc
    refine dd_Rn.ite 2 (c := (63 : Int32) < a1) (A := (14, [.int a1, .int 0, .int 63], [], sM Ln (dd_u I 148 (upd (I 148) 0 0)) L c s)) (B := (10, [.int a1, .int 0, .int 63], [], sM Ln (dd_u I 148 (upd (I 148) 0 0)) L c s)) rfl (fun hc => ?_) (fun hc => ?_) (by omega)
    · have h := h.1 hc
      refine dd_Rn.retK 1 (pc := 15) (ls := [.int a1, .int 0, .int 63]) (st := [.int 0]) (M := sM Ln (dd_u I 148 (upd (I 148) 0 0)) L c s) (o := (none, .int 0, sM Ln (dd_u I 148 (upd (I 148) 0 0)) L c s)) rfl rfl (dd_Af.ret rfl ?_) (by omega)
      show dd_Rn (e + 15) m_X11_noCell (7, [.int a1], [.int 0], sM Ln (dd_u I 148 (upd (I 148) 0 0)) L c s) _
      refine dd_Rn.retK 3 (pc := 15) (ls := [.int a1]) (st := [.int 1]) (M := sM Ln (dd_u I 148 (upd (I 148) 0 0)) L c s) (o := (none, .int 1, sM Ln (dd_u I 148 (upd (I 148) 0 0)) L c s)) rfl rfl (dd_Af.ret rfl ?_) (by omega)
      show dd_Rn (e + 16) m_X11_fire (10, [.ref 148, .int a1, .null], [.int 1, .ref 148], sM Ln (dd_u I 148 (upd (I 148) 0 0)) L c s) _
      refine dd_Rn.sub 1 (pc := 11) (ls := [.ref 148, .int a1, .null]) (st := [.int 1, .int 1, .ref 148]) (M := sM Ln (dd_u I 148 (upd (I 148) 0 0)) L c s) (x := m_X11_throwsIf) (as := [.ref 148, .int 1, .int 1]) (rest := []) rfl rfl rfl rfl ?_
      show dd_Rn (e + 15) m_X11_throwsIf (0, [.ref 148, .int 1, .int 1], [], sM Ln (dd_u I 148 (upd (I 148) 0 0)) L c s) _
      refine dd_Rn.retK 6 (pc := 10) (ls := [.ref 148, .int 1, .int 1]) (st := [.int 1]) (M := sM Ln (dd_u (dd_u I 148 (upd (I 148) 0 0)) 148 (upd (upd (I 148) 0 0) 0 1)) L c s) (o := (none, .int 1, sM Ln (dd_u (dd_u I 148 (upd (I 148) 0 0)) 148 (upd (upd (I 148) 0 0) 0 1)) L c s)) rfl rfl (dd_Af.ret rfl ?_) (by omega)
      show dd_Rn (e + 16) m_X11_fire (14, [.ref 148, .int a1, .null], [.int 1], sM Ln (dd_u (dd_u I 148 (upd (I 148) 0 0)) 148 (upd (upd (I 148) 0 0) 0 1)) L c s) _
      exact dd_Rn.retK 2 (pc := 31) (ls := [.ref 148, .int a1, .null]) (st := [.int 0]) (M := sM Ln (dd_u (dd_u I 148 (upd (I 148) 0 0)) 148 (upd (upd (I 148) 0 0) 0 1)) L c s) (o := (none, .int 0, sM Ln (dd_u (dd_u I 148 (upd (I 148) 0 0)) 148 (upd (upd (I 148) 0 0) 0 1)) L c s)) rfl rfl h (by omega)
    · have h := h.2 hc
      refine dd_Rn.retK 2 (pc := 15) (ls := [.int a1, .int 0, .int 63]) (st := [.int 1]) (M := sM Ln (dd_u I 148 (upd (I 148) 0 0)) L c s) (o := (none, .int 1, sM Ln (dd_u I 148 (upd (I 148) 0 0)) L c s)) rfl rfl (dd_Af.ret rfl ?_) (by omega)
      show dd_Rn (e + 15) m_X11_noCell (7, [.int a1], [.int 1], sM Ln (dd_u I 148 (upd (I 148) 0 0)) L c s) _
      refine dd_Rn.retK 2 (pc := 15) (ls := [.int a1]) (st := [.int 0]) (M := sM Ln (dd_u I 148 (upd (I 148) 0 0)) L c s) (o := (none, .int 0, sM Ln (dd_u I 148 (upd (I 148) 0 0)) L c s)) rfl rfl (dd_Af.ret rfl ?_) (by omega)
      show dd_Rn (e + 16) m_X11_fire (10, [.ref 148, .int a1, .null], [.int 0, .ref 148], sM Ln (dd_u I 148 (upd (I 148) 0 0)) L c s) _
      refine dd_Rn.sub 1 (pc := 11) (ls := [.ref 148, .int a1, .null]) (st := [.int 1, .int 0, .ref 148]) (M := sM Ln (dd_u I 148 (upd (I 148) 0 0)) L c s) (x := m_X11_throwsIf) (as := [.ref 148, .int 0, .int 1]) (rest := []) rfl rfl rfl rfl ?_
      show dd_Rn (e + 15) m_X11_throwsIf (0, [.ref 148, .int 0, .int 1], [], sM Ln (dd_u I 148 (upd (I 148) 0 0)) L c s) _
      refine dd_Rn.retK 3 (pc := 10) (ls := [.ref 148, .int 0, .int 1]) (st := [.int 0]) (M := sM Ln (dd_u I 148 (upd (I 148) 0 0)) L c s) (o := (none, .int 0, sM Ln (dd_u I 148 (upd (I 148) 0 0)) L c s)) rfl rfl (dd_Af.ret rfl ?_) (by omega)
      show dd_Rn (e + 16) m_X11_fire (14, [.ref 148, .int a1, .null], [.int 0], sM Ln (dd_u I 148 (upd (I 148) 0 0)) L c s) _
      refine dd_Rn.sub 4 (pc := 20) (ls := [.ref 148, .int a1, .null]) (st := [.int a1, .ref 148, .ref 148]) (M := sM Ln (dd_u I 148 (upd (I 148) 0 0)) L c s) (x := m_X11_hasTrees) (as := [.ref 148, .int a1]) (rest := [.ref 148]) rfl rfl rfl rfl ?_
      show dd_Rn (e + 15) m_X11_hasTrees (0, [.ref 148, .int a1], [], sM Ln (dd_u I 148 (upd (I 148) 0 0)) L c s) _
      obtain ⟨hc, h⟩ := h
      refine dd_Rn.go 5 (cf' := (8, [.ref 148, .int a1], [.int ((11 : Int32) + a1), .ref 149], sM Ln (dd_u I 148 (upd (I 148) 0 0)) L c s)) rfl ?_ (by omega)
      refine dd_Rn.ci (fun j0 => (8, [.ref 148, .int a1], [.int j0, .ref 149], sM Ln (dd_u I 148 (upd (I 148) 0 0)) L c s)) (fun j0 => (9, [.ref 148, .int a1], [.int (I 149 (tn j0))], sM Ln (dd_u I 148 (upd (I 148) 0 0)) L c s)) (fun j0 => 0 ≤ j0 ∧ tn j0 < 2220) ((11 : Int32) + a1) (fun j0 hc h => dd_Rn.chk 0 (c := 0 ≤ j0 ∧ tn j0 < 2220) (A := (9, [.ref 148, .int a1], [.int (I 149 (tn j0))], sM Ln (dd_u I 148 (upd (I 148) 0 0)) L c s)) rfl hc h (by omega)) hc ?_
      refine dd_Rn.se (cf := (9, [.ref 148, .int a1], [.int (I 149 (tn ((11 : Int32) + a1)))], sM Ln (dd_u I 148 (upd (I 148) 0 0)) L c s)) ?_
      refine dd_Rn.ite 1 (c := I 149 (tn ((11 : Int32) + a1)) = 1) (A := (13, [.ref 148, .int a1], [], sM Ln (dd_u I 148 (upd (I 148) 0 0)) L c s)) (B := (17, [.ref 148, .int a1], [], sM Ln (dd_u I 148 (upd (I 148) 0 0)) L c s)) rfl (fun hc => ?_) (fun hc => ?_) (by omega)
      · have h := h.1 hc
        refine dd_Rn.retK 2 (pc := 18) (ls := [.ref 148, .int a1]) (st := [.int 1]) (M := sM Ln (dd_u I 148 (upd (I 148) 0 0)) L c s) (o := (none, .int 1, sM Ln (dd_u I 148 (upd (I 148) 0 0)) L c s)) rfl rfl (dd_Af.ret rfl ?_) (by omega)
        show dd_Rn (e + 16) m_X11_fire (23, [.ref 148, .int a1, .null], [.int 1, .ref 148], sM Ln (dd_u I 148 (upd (I 148) 0 0)) L c s) _
        refine dd_Rn.sub 1 (pc := 24) (ls := [.ref 148, .int a1, .null]) (st := [.int 2, .int 1, .ref 148]) (M := sM Ln (dd_u I 148 (upd (I 148) 0 0)) L c s) (x := m_X11_throwsIf) (as := [.ref 148, .int 1, .int 2]) (rest := []) rfl rfl rfl rfl ?_
        show dd_Rn (e + 15) m_X11_throwsIf (0, [.ref 148, .int 1, .int 2], [], sM Ln (dd_u I 148 (upd (I 148) 0 0)) L c s) _
        refine dd_Rn.retK 6 (pc := 10) (ls := [.ref 148, .int 1, .int 2]) (st := [.int 1]) (M := sM Ln (dd_u (dd_u I 148 (upd (I 148) 0 0)) 148 (upd (upd (I 148) 0 0) 0 2)) L c s) (o := (none, .int 1, sM Ln (dd_u (dd_u I 148 (upd (I 148) 0 0)) 148 (upd (upd (I 148) 0 0) 0 2)) L c s)) rfl rfl (dd_Af.ret rfl ?_) (by omega)
        show dd_Rn (e + 16) m_X11_fire (27, [.ref 148, .int a1, .null], [.int 1], sM Ln (dd_u (dd_u I 148 (upd (I 148) 0 0)) 148 (upd (upd (I 148) 0 0) 0 2)) L c s) _
        exact dd_Rn.retK 2 (pc := 31) (ls := [.ref 148, .int a1, .null]) (st := [.int 0]) (M := sM Ln (dd_u (dd_u I 148 (upd (I 148) 0 0)) 148 (upd (upd (I 148) 0 0) 0 2)) L c s) (o := (none, .int 0, sM Ln (dd_u (dd_u I 148 (upd (I 148) 0 0)) 148 (upd (upd (I 148) 0 0) 0 2)) L c s)) rfl rfl h (by omega)
      · have h := h.2 hc
        refine dd_Rn.retK 1 (pc := 18) (ls := [.ref 148, .int a1]) (st := [.int 0]) (M := sM Ln (dd_u I 148 (upd (I 148) 0 0)) L c s) (o := (none, .int 0, sM Ln (dd_u I 148 (upd (I 148) 0 0)) L c s)) rfl rfl (dd_Af.ret rfl ?_) (by omega)
        show dd_Rn (e + 16) m_X11_fire (23, [.ref 148, .int a1, .null], [.int 0, .ref 148], sM Ln (dd_u I 148 (upd (I 148) 0 0)) L c s) _
        refine dd_Rn.sub 1 (pc := 24) (ls := [.ref 148, .int a1, .null]) (st := [.int 2, .int 0, .ref 148]) (M := sM Ln (dd_u I 148 (upd (I 148) 0 0)) L c s) (x := m_X11_throwsIf) (as := [.ref 148, .int 0, .int 2]) (rest := []) rfl rfl rfl rfl ?_
        show dd_Rn (e + 15) m_X11_throwsIf (0, [.ref 148, .int 0, .int 2], [], sM Ln (dd_u I 148 (upd (I 148) 0 0)) L c s) _
        refine dd_Rn.retK 3 (pc := 10) (ls := [.ref 148, .int 0, .int 2]) (st := [.int 0]) (M := sM Ln (dd_u I 148 (upd (I 148) 0 0)) L c s) (o := (none, .int 0, sM Ln (dd_u I 148 (upd (I 148) 0 0)) L c s)) rfl rfl (dd_Af.ret rfl ?_) (by omega)
        show dd_Rn (e + 16) m_X11_fire (27, [.ref 148, .int a1, .null], [.int 0], sM Ln (dd_u I 148 (upd (I 148) 0 0)) L c s) _
        refine dd_Rn.cV 2 (pc := 33) (ls := [.ref 148, .int a1, .null]) (st := [.ref 148]) (x := m_X11_remembers) (as := [.ref 148]) (rest := []) rfl rfl rfl rfl h ?_
        intro I1 L1 h
        show dd_Rn (e + 16) m_X11_fire (36, [.ref 148, .int a1, .null], [], sM Ln I1 L1 c s) _
        refine dd_Rn.cV 7 (pc := 45) (ls := [.ref 148, .int a1, .int (I1 149 4)]) (st := [.int a1, .ref 148]) (x := m_X11_firesAt) (as := [.ref 148, .int a1]) (rest := []) rfl rfl rfl rfl h ?_
        intro I2 L2 h
        show dd_Rn (e + 16) m_X11_fire (48, [.ref 148, .int a1, .int (I1 149 4)], [], sM Ln I2 L2 c s) _
        exact dd_Rn.retK 1 (pc := 49) (ls := [.ref 148, .int a1, .int (I1 149 4)]) (st := [.int (I1 149 4)]) (M := sM Ln I2 L2 c s) (o := (none, .int (I1 149 4), sM Ln I2 L2 c s)) rfl rfl h (by omega)

theorem w_X11_plant_0 {Ln d c s : Nat} {I : Nat → Nat → Int32} {L : Nat → Nat → Int64} {Q : dd_O → Prop} {a1 a2 : Int32} (hd : 28 ≤ d) (h : ((a1 < 0 → Q (none, .int 0, sM Ln (dd_u (dd_u I 148 (upd (I 148) 0 0)) 148 (upd (upd (I 148) 0 0) 0 1)) L c s)) ∧ (¬ (a1 < 0) → (((63 : Int32) < a1 → Q (none, .int 0, sM Ln (dd_u (dd_u I 148 (upd (I 148) 0 0)) 148 (upd (upd (I 148) 0 0) 0 1)) L c s)) ∧ (¬ ((63 : Int32) < a1) → ((a2 = 0 → dd_Ev (d - 1) m_X11_remembers [.ref 148] (sM Ln (dd_u I 148 (upd (I 148) 0 0)) L c s) (dd_RV Ln c s (fun I1 L1 => ((0 ≤ (11 : Int32) + a1 ∧ tn ((11 : Int32) + a1) < 2220) ∧ ((I1 149 (tn ((11 : Int32) + a1)) = 1 → ((a2 = 0 → dd_Rn d m_X11_plant (81, [.ref 148, .int a1, .int a2, .int 1], [.int 0, .int ((11 : Int32) + a1), .ref 149], sM Ln I1 L1 c s) Q) ∧ (¬ (a2 = 0) → dd_Rn d m_X11_plant (81, [.ref 148, .int a1, .int a2, .int 1], [.int 1, .int ((11 : Int32) + a1), .ref 149], sM Ln I1 L1 c s) Q))) ∧ (¬ (I1 149 (tn ((11 : Int32) + a1)) = 1) → ((a2 = 0 → dd_Rn d m_X11_plant (81, [.ref 148, .int a1, .int a2, .int 0], [.int 0, .int ((11 : Int32) + a1), .ref 149], sM Ln I1 L1 c s) Q) ∧ (¬ (a2 = 0) → dd_Rn d m_X11_plant (81, [.ref 148, .int a1, .int a2, .int 0], [.int 1, .int ((11 : Int32) + a1), .ref 149], sM Ln I1 L1 c s) Q)))))))) ∧ (¬ (a2 = 0) → ((a1 = I 149 4 → Q (none, .int 0, sM Ln (dd_u (dd_u I 148 (upd (I 148) 0 0)) 148 (upd (upd (I 148) 0 0) 0 2)) L c s)) ∧ (¬ (a1 = I 149 4) → dd_Ev (d - 1) m_X11_isLostIn [.ref 148, .int a1] (sM Ln (dd_u I 148 (upd (I 148) 0 0)) L c s) (dd_RI Ln c s (fun x2 I2 L2 => ((x2 = 0 → dd_Ev (d - 1) m_X11_remembers [.ref 148] (sM Ln I2 L2 c s) (dd_RV Ln c s (fun I3 L3 => ((0 ≤ (11 : Int32) + a1 ∧ tn ((11 : Int32) + a1) < 2220) ∧ ((I3 149 (tn ((11 : Int32) + a1)) = 1 → ((a2 = 0 → dd_Rn d m_X11_plant (81, [.ref 148, .int a1, .int a2, .int 1], [.int 0, .int ((11 : Int32) + a1), .ref 149], sM Ln I3 L3 c s) Q) ∧ (¬ (a2 = 0) → dd_Rn d m_X11_plant (81, [.ref 148, .int a1, .int a2, .int 1], [.int 1, .int ((11 : Int32) + a1), .ref 149], sM Ln I3 L3 c s) Q))) ∧ (¬ (I3 149 (tn ((11 : Int32) + a1)) = 1) → ((a2 = 0 → dd_Rn d m_X11_plant (81, [.ref 148, .int a1, .int a2, .int 0], [.int 0, .int ((11 : Int32) + a1), .ref 149], sM Ln I3 L3 c s) Q) ∧ (¬ (a2 = 0) → dd_Rn d m_X11_plant (81, [.ref 148, .int a1, .int a2, .int 0], [.int 1, .int ((11 : Int32) + a1), .ref 149], sM Ln I3 L3 c s) Q)))))))) ∧ (¬ (x2 = 0) → Q (none, .int 0, sM Ln (dd_u I2 148 (upd (I2 148) 0 2)) L2 c s)))))))))))))) : dd_Ev d m_X11_plant [.ref 148, .int a1, .int a2] (sM Ln I L c s) Q := by
  obtain ⟨e, rfl⟩ : ∃ e, d = e + 16 := ⟨d - 16, by omega⟩
  show dd_Rn (e + 16) m_X11_plant (0, [.ref 148, .int a1, .int a2, .null], [], sM Ln I L c s) Q
  refine dd_Rn.sub 5 (pc := 7) (ls := [.ref 148, .int a1, .int a2, .null]) (st := [.int a1, .ref 148]) (M := sM Ln (dd_u I 148 (upd (I 148) 0 0)) L c s) (x := m_X11_noCell) (as := [.int a1]) (rest := [.ref 148]) rfl rfl rfl rfl ?_
  show dd_Rn (e + 15) m_X11_noCell (0, [.int a1], [], sM Ln (dd_u I 148 (upd (I 148) 0 0)) L c s) _
  refine dd_Rn.sub 3 (pc := 4) (ls := [.int a1]) (st := [.int 63, .int 0, .int a1]) (M := sM Ln (dd_u I 148 (upd (I 148) 0 0)) L c s) (x := m_X11_in) (as := [.int a1, .int 0, .int 63]) (rest := []) rfl rfl rfl rfl ?_
  show dd_Rn (e + 14) m_X11_in (0, [.int a1, .int 0, .int 63], [], sM Ln (dd_u I 148 (upd (I 148) 0 0)) L c s) _
  refine dd_Rn.ite 2 (c := a1 < 0) (A := (14, [.int a1, .int 0, .int 63], [], sM Ln (dd_u I 148 (upd (I 148) 0 0)) L c s)) (B := (5, [.int a1, .int 0, .int 63], [], sM Ln (dd_u I 148 (upd (I 148) 0 0)) L c s)) rfl (fun hc => ?_) (fun hc => ?_) (by omega)
  · have h := h.1 hc
    refine dd_Rn.retK 1 (pc := 15) (ls := [.int a1, .int 0, .int 63]) (st := [.int 0]) (M := sM Ln (dd_u I 148 (upd (I 148) 0 0)) L c s) (o := (none, .int 0, sM Ln (dd_u I 148 (upd (I 148) 0 0)) L c s)) rfl rfl (dd_Af.ret rfl ?_) (by omega)
    show dd_Rn (e + 15) m_X11_noCell (7, [.int a1], [.int 0], sM Ln (dd_u I 148 (upd (I 148) 0 0)) L c s) _
    refine dd_Rn.retK 3 (pc := 15) (ls := [.int a1]) (st := [.int 1]) (M := sM Ln (dd_u I 148 (upd (I 148) 0 0)) L c s) (o := (none, .int 1, sM Ln (dd_u I 148 (upd (I 148) 0 0)) L c s)) rfl rfl (dd_Af.ret rfl ?_) (by omega)
    show dd_Rn (e + 16) m_X11_plant (10, [.ref 148, .int a1, .int a2, .null], [.int 1, .ref 148], sM Ln (dd_u I 148 (upd (I 148) 0 0)) L c s) _
    refine dd_Rn.sub 1 (pc := 11) (ls := [.ref 148, .int a1, .int a2, .null]) (st := [.int 1, .int 1, .ref 148]) (M := sM Ln (dd_u I 148 (upd (I 148) 0 0)) L c s) (x := m_X11_throwsIf) (as := [.ref 148, .int 1, .int 1]) (rest := []) rfl rfl rfl rfl ?_
    show dd_Rn (e + 15) m_X11_throwsIf (0, [.ref 148, .int 1, .int 1], [], sM Ln (dd_u I 148 (upd (I 148) 0 0)) L c s) _
    refine dd_Rn.retK 6 (pc := 10) (ls := [.ref 148, .int 1, .int 1]) (st := [.int 1]) (M := sM Ln (dd_u (dd_u I 148 (upd (I 148) 0 0)) 148 (upd (upd (I 148) 0 0) 0 1)) L c s) (o := (none, .int 1, sM Ln (dd_u (dd_u I 148 (upd (I 148) 0 0)) 148 (upd (upd (I 148) 0 0) 0 1)) L c s)) rfl rfl (dd_Af.ret rfl ?_) (by omega)
    show dd_Rn (e + 16) m_X11_plant (14, [.ref 148, .int a1, .int a2, .null], [.int 1], sM Ln (dd_u (dd_u I 148 (upd (I 148) 0 0)) 148 (upd (upd (I 148) 0 0) 0 1)) L c s) _
    exact dd_Rn.retK 2 (pc := 53) (ls := [.ref 148, .int a1, .int a2, .null]) (st := [.int 0]) (M := sM Ln (dd_u (dd_u I 148 (upd (I 148) 0 0)) 148 (upd (upd (I 148) 0 0) 0 1)) L c s) (o := (none, .int 0, sM Ln (dd_u (dd_u I 148 (upd (I 148) 0 0)) 148 (upd (upd (I 148) 0 0) 0 1)) L c s)) rfl rfl h (by omega)
  · have h := h.2 hc
    refine dd_Rn.ite 2 (c := (63 : Int32) < a1) (A := (14, [.int a1, .int 0, .int 63], [], sM Ln (dd_u I 148 (upd (I 148) 0 0)) L c s)) (B := (10, [.int a1, .int 0, .int 63], [], sM Ln (dd_u I 148 (upd (I 148) 0 0)) L c s)) rfl (fun hc => ?_) (fun hc => ?_) (by omega)
    · have h := h.1 hc
      refine dd_Rn.retK 1 (pc := 15) (ls := [.int a1, .int 0, .int 63]) (st := [.int 0]) (M := sM Ln (dd_u I 148 (upd (I 148) 0 0)) L c s) (o := (none, .int 0, sM Ln (dd_u I 148 (upd (I 148) 0 0)) L c s)) rfl rfl (dd_Af.ret rfl ?_) (by omega)
      show dd_Rn (e + 15) m_X11_noCell (7, [.int a1], [.int 0], sM Ln (dd_u I 148 (upd (I 148) 0 0)) L c s) _
      refine dd_Rn.retK 3 (pc := 15) (ls := [.int a1]) (st := [.int 1]) (M := sM Ln (dd_u I 148 (upd (I 148) 0 0)) L c s) (o := (none, .int 1, sM Ln (dd_u I 148 (upd (I 148) 0 0)) L c s)) rfl rfl (dd_Af.ret rfl ?_) (by omega)
      show dd_Rn (e + 16) m_X11_plant (10, [.ref 148, .int a1, .int a2, .null], [.int 1, .ref 148], sM Ln (dd_u I 148 (upd (I 148) 0 0)) L c s) _
      refine dd_Rn.sub 1 (pc := 11) (ls := [.ref 148, .int a1, .int a2, .null]) (st := [.int 1, .int 1, .ref 148]) (M := sM Ln (dd_u I 148 (upd (I 148) 0 0)) L c s) (x := m_X11_throwsIf) (as := [.ref 148, .int 1, .int 1]) (rest := []) rfl rfl rfl rfl ?_
      show dd_Rn (e + 15) m_X11_throwsIf (0, [.ref 148, .int 1, .int 1], [], sM Ln (dd_u I 148 (upd (I 148) 0 0)) L c s) _
      refine dd_Rn.retK 6 (pc := 10) (ls := [.ref 148, .int 1, .int 1]) (st := [.int 1]) (M := sM Ln (dd_u (dd_u I 148 (upd (I 148) 0 0)) 148 (upd (upd (I 148) 0 0) 0 1)) L c s) (o := (none, .int 1, sM Ln (dd_u (dd_u I 148 (upd (I 148) 0 0)) 148 (upd (upd (I 148) 0 0) 0 1)) L c s)) rfl rfl (dd_Af.ret rfl ?_) (by omega)
      show dd_Rn (e + 16) m_X11_plant (14, [.ref 148, .int a1, .int a2, .null], [.int 1], sM Ln (dd_u (dd_u I 148 (upd (I 148) 0 0)) 148 (upd (upd (I 148) 0 0) 0 1)) L c s) _
      exact dd_Rn.retK 2 (pc := 53) (ls := [.ref 148, .int a1, .int a2, .null]) (st := [.int 0]) (M := sM Ln (dd_u (dd_u I 148 (upd (I 148) 0 0)) 148 (upd (upd (I 148) 0 0) 0 1)) L c s) (o := (none, .int 0, sM Ln (dd_u (dd_u I 148 (upd (I 148) 0 0)) 148 (upd (upd (I 148) 0 0) 0 1)) L c s)) rfl rfl h (by omega)
    · have h := h.2 hc
      refine dd_Rn.retK 2 (pc := 15) (ls := [.int a1, .int 0, .int 63]) (st := [.int 1]) (M := sM Ln (dd_u I 148 (upd (I 148) 0 0)) L c s) (o := (none, .int 1, sM Ln (dd_u I 148 (upd (I 148) 0 0)) L c s)) rfl rfl (dd_Af.ret rfl ?_) (by omega)
      show dd_Rn (e + 15) m_X11_noCell (7, [.int a1], [.int 1], sM Ln (dd_u I 148 (upd (I 148) 0 0)) L c s) _
      refine dd_Rn.retK 2 (pc := 15) (ls := [.int a1]) (st := [.int 0]) (M := sM Ln (dd_u I 148 (upd (I 148) 0 0)) L c s) (o := (none, .int 0, sM Ln (dd_u I 148 (upd (I 148) 0 0)) L c s)) rfl rfl (dd_Af.ret rfl ?_) (by omega)
      show dd_Rn (e + 16) m_X11_plant (10, [.ref 148, .int a1, .int a2, .null], [.int 0, .ref 148], sM Ln (dd_u I 148 (upd (I 148) 0 0)) L c s) _
      refine dd_Rn.sub 1 (pc := 11) (ls := [.ref 148, .int a1, .int a2, .null]) (st := [.int 1, .int 0, .ref 148]) (M := sM Ln (dd_u I 148 (upd (I 148) 0 0)) L c s) (x := m_X11_throwsIf) (as := [.ref 148, .int 0, .int 1]) (rest := []) rfl rfl rfl rfl ?_
      show dd_Rn (e + 15) m_X11_throwsIf (0, [.ref 148, .int 0, .int 1], [], sM Ln (dd_u I 148 (upd (I 148) 0 0)) L c s) _
      refine dd_Rn.retK 3 (pc := 10) (ls := [.ref 148, .int 0, .int 1]) (st := [.int 0]) (M := sM Ln (dd_u I 148 (upd (I 148) 0 0)) L c s) (o := (none, .int 0, sM Ln (dd_u I 148 (upd (I 148) 0 0)) L c s)) rfl rfl (dd_Af.ret rfl ?_) (by omega)
      show dd_Rn (e + 16) m_X11_plant (14, [.ref 148, .int a1, .int a2, .null], [.int 0], sM Ln (dd_u I 148 (upd (I 148) 0 0)) L c s) _
      refine dd_Rn.ite 3 (c := a2 = 0) (A := (44, [.ref 148, .int a1, .int a2, .null], [.ref 148], sM Ln (dd_u I 148 (upd (I 148) 0 0)) L c s)) (B := (22, [.ref 148, .int a1, .int a2, .null], [.ref 148], sM Ln (dd_u I 148 (upd (I 148) 0 0)) L c s)) rfl (fun hc => ?_) (fun hc => ?_) (by omega)
      · have h := h.1 hc
        refine dd_Rn.sub 2 (pc := 46) (ls := [.ref 148, .int a1, .int a2, .null]) (st := [.int 2, .int 0, .ref 148]) (M := sM Ln (dd_u I 148 (upd (I 148) 0 0)) L c s) (x := m_X11_throwsIf) (as := [.ref 148, .int 0, .int 2]) (rest := []) rfl rfl rfl rfl ?_
        show dd_Rn (e + 15) m_X11_throwsIf (0, [.ref 148, .int 0, .int 2], [], sM Ln (dd_u I 148 (upd (I 148) 0 0)) L c s) _
        refine dd_Rn.retK 3 (pc := 10) (ls := [.ref 148, .int 0, .int 2]) (st := [.int 0]) (M := sM Ln (dd_u I 148 (upd (I 148) 0 0)) L c s) (o := (none, .int 0, sM Ln (dd_u I 148 (upd (I 148) 0 0)) L c s)) rfl rfl (dd_Af.ret rfl ?_) (by omega)
        show dd_Rn (e + 16) m_X11_plant (49, [.ref 148, .int a1, .int a2, .null], [.int 0], sM Ln (dd_u I 148 (upd (I 148) 0 0)) L c s) _
        refine dd_Rn.cV 2 (pc := 55) (ls := [.ref 148, .int a1, .int a2, .null]) (st := [.ref 148]) (x := m_X11_remembers) (as := [.ref 148]) (rest := []) rfl rfl rfl rfl h ?_
        intro I1 L1 h
        show dd_Rn (e + 16) m_X11_plant (58, [.ref 148, .int a1, .int a2, .null], [], sM Ln I1 L1 c s) _
        refine dd_Rn.sub 2 (pc := 60) (ls := [.ref 148, .int a1, .int a2, .null]) (st := [.int a1, .ref 148]) (M := sM Ln I1 L1 c s) (x := m_X11_hasTrees) (as := [.ref 148, .int a1]) (rest := []) rfl rfl rfl rfl ?_
        show dd_Rn (e + 15) m_X11_hasTrees (0, [.ref 148, .int a1], [], sM Ln I1 L1 c s) _
        obtain ⟨hc, h⟩ := h
        refine dd_Rn.go 5 (cf' := (8, [.ref 148, .int a1], [.int ((11 : Int32) + a1), .ref 149], sM Ln I1 L1 c s)) rfl ?_ (by omega)
        refine dd_Rn.ci (fun j0 => (8, [.ref 148, .int a1], [.int j0, .ref 149], sM Ln I1 L1 c s)) (fun j0 => (9, [.ref 148, .int a1], [.int (I1 149 (tn j0))], sM Ln I1 L1 c s)) (fun j0 => 0 ≤ j0 ∧ tn j0 < 2220) ((11 : Int32) + a1) (fun j0 hc h => dd_Rn.chk 0 (c := 0 ≤ j0 ∧ tn j0 < 2220) (A := (9, [.ref 148, .int a1], [.int (I1 149 (tn j0))], sM Ln I1 L1 c s)) rfl hc h (by omega)) hc ?_
        refine dd_Rn.se (cf := (9, [.ref 148, .int a1], [.int (I1 149 (tn ((11 : Int32) + a1)))], sM Ln I1 L1 c s)) ?_
        refine dd_Rn.ite 1 (c := I1 149 (tn ((11 : Int32) + a1)) = 1) (A := (13, [.ref 148, .int a1], [], sM Ln I1 L1 c s)) (B := (17, [.ref 148, .int a1], [], sM Ln I1 L1 c s)) rfl (fun hc => ?_) (fun hc => ?_) (by omega)
        · have h := h.1 hc
          refine dd_Rn.retK 2 (pc := 18) (ls := [.ref 148, .int a1]) (st := [.int 1]) (M := sM Ln I1 L1 c s) (o := (none, .int 1, sM Ln I1 L1 c s)) rfl rfl (dd_Af.ret rfl ?_) (by omega)
          show dd_Rn (e + 16) m_X11_plant (63, [.ref 148, .int a1, .int a2, .null], [.int 1], sM Ln I1 L1 c s) _
          refine dd_Rn.ite 7 (c := a2 = 0) (A := (80, [.ref 148, .int a1, .int a2, .int 1], [.int ((11 : Int32) + a1), .ref 149], sM Ln I1 L1 c s)) (B := (76, [.ref 148, .int a1, .int a2, .int 1], [.int ((11 : Int32) + a1), .ref 149], sM Ln I1 L1 c s)) rfl (fun hc => ?_) (fun hc => ?_) (by omega)
          · have h := h.1 hc
            exact dd_Rn.go 1 (cf' := (81, [.ref 148, .int a1, .int a2, .int 1], [.int 0, .int ((11 : Int32) + a1), .ref 149], sM Ln I1 L1 c s)) rfl h (by omega)
          · have h := h.2 hc
            exact dd_Rn.go 2 (cf' := (81, [.ref 148, .int a1, .int a2, .int 1], [.int 1, .int ((11 : Int32) + a1), .ref 149], sM Ln I1 L1 c s)) rfl h (by omega)
        · have h := h.2 hc
          refine dd_Rn.retK 1 (pc := 18) (ls := [.ref 148, .int a1]) (st := [.int 0]) (M := sM Ln I1 L1 c s) (o := (none, .int 0, sM Ln I1 L1 c s)) rfl rfl (dd_Af.ret rfl ?_) (by omega)
          show dd_Rn (e + 16) m_X11_plant (63, [.ref 148, .int a1, .int a2, .null], [.int 0], sM Ln I1 L1 c s) _
          refine dd_Rn.ite 7 (c := a2 = 0) (A := (80, [.ref 148, .int a1, .int a2, .int 0], [.int ((11 : Int32) + a1), .ref 149], sM Ln I1 L1 c s)) (B := (76, [.ref 148, .int a1, .int a2, .int 0], [.int ((11 : Int32) + a1), .ref 149], sM Ln I1 L1 c s)) rfl (fun hc => ?_) (fun hc => ?_) (by omega)
          · have h := h.1 hc
            exact dd_Rn.go 1 (cf' := (81, [.ref 148, .int a1, .int a2, .int 0], [.int 0, .int ((11 : Int32) + a1), .ref 149], sM Ln I1 L1 c s)) rfl h (by omega)
          · have h := h.2 hc
            exact dd_Rn.go 2 (cf' := (81, [.ref 148, .int a1, .int a2, .int 0], [.int 1, .int ((11 : Int32) + a1), .ref 149], sM Ln I1 L1 c s)) rfl h (by omega)
      · have h := h.2 hc
        refine dd_Rn.ite 5 (c := a1 = I 149 4) (A := (40, [.ref 148, .int a1, .int a2, .null], [.ref 148], sM Ln (dd_u I 148 (upd (I 148) 0 0)) L c s)) (B := (32, [.ref 148, .int a1, .int a2, .null], [.ref 148], sM Ln (dd_u I 148 (upd (I 148) 0 0)) L c s)) rfl (fun hc => ?_) (fun hc => ?_) (by omega)
        · have h := h.1 hc
          refine dd_Rn.sub 3 (pc := 46) (ls := [.ref 148, .int a1, .int a2, .null]) (st := [.int 2, .int 1, .ref 148]) (M := sM Ln (dd_u I 148 (upd (I 148) 0 0)) L c s) (x := m_X11_throwsIf) (as := [.ref 148, .int 1, .int 2]) (rest := []) rfl rfl rfl rfl ?_
          show dd_Rn (e + 15) m_X11_throwsIf (0, [.ref 148, .int 1, .int 2], [], sM Ln (dd_u I 148 (upd (I 148) 0 0)) L c s) _
          refine dd_Rn.retK 6 (pc := 10) (ls := [.ref 148, .int 1, .int 2]) (st := [.int 1]) (M := sM Ln (dd_u (dd_u I 148 (upd (I 148) 0 0)) 148 (upd (upd (I 148) 0 0) 0 2)) L c s) (o := (none, .int 1, sM Ln (dd_u (dd_u I 148 (upd (I 148) 0 0)) 148 (upd (upd (I 148) 0 0) 0 2)) L c s)) rfl rfl (dd_Af.ret rfl ?_) (by omega)
          show dd_Rn (e + 16) m_X11_plant (49, [.ref 148, .int a1, .int a2, .null], [.int 1], sM Ln (dd_u (dd_u I 148 (upd (I 148) 0 0)) 148 (upd (upd (I 148) 0 0) 0 2)) L c s) _
          exact dd_Rn.retK 2 (pc := 53) (ls := [.ref 148, .int a1, .int a2, .null]) (st := [.int 0]) (M := sM Ln (dd_u (dd_u I 148 (upd (I 148) 0 0)) 148 (upd (upd (I 148) 0 0) 0 2)) L c s) (o := (none, .int 0, sM Ln (dd_u (dd_u I 148 (upd (I 148) 0 0)) 148 (upd (upd (I 148) 0 0) 0 2)) L c s)) rfl rfl h (by omega)
        · have h := h.2 hc
          refine dd_Rn.cI 2 (pc := 34) (ls := [.ref 148, .int a1, .int a2, .null]) (st := [.int a1, .ref 148, .ref 148]) (x := m_X11_isLostIn) (as := [.ref 148, .int a1]) (rest := [.ref 148]) rfl rfl rfl rfl h ?_
          intro x2 I2 L2 h
          show dd_Rn (e + 16) m_X11_plant (37, [.ref 148, .int a1, .int a2, .null], [.int x2, .ref 148], sM Ln I2 L2 c s) _
          refine dd_Rn.ite 0 (c := x2 = 0) (A := (44, [.ref 148, .int a1, .int a2, .null], [.ref 148], sM Ln I2 L2 c s)) (B := (40, [.ref 148, .int a1, .int a2, .null], [.ref 148], sM Ln I2 L2 c s)) rfl (fun hc => ?_) (fun hc => ?_) (by omega)
          · have h := h.1 hc
            refine dd_Rn.sub 2 (pc := 46) (ls := [.ref 148, .int a1, .int a2, .null]) (st := [.int 2, .int 0, .ref 148]) (M := sM Ln I2 L2 c s) (x := m_X11_throwsIf) (as := [.ref 148, .int 0, .int 2]) (rest := []) rfl rfl rfl rfl ?_
            show dd_Rn (e + 15) m_X11_throwsIf (0, [.ref 148, .int 0, .int 2], [], sM Ln I2 L2 c s) _
            refine dd_Rn.retK 3 (pc := 10) (ls := [.ref 148, .int 0, .int 2]) (st := [.int 0]) (M := sM Ln I2 L2 c s) (o := (none, .int 0, sM Ln I2 L2 c s)) rfl rfl (dd_Af.ret rfl ?_) (by omega)
            show dd_Rn (e + 16) m_X11_plant (49, [.ref 148, .int a1, .int a2, .null], [.int 0], sM Ln I2 L2 c s) _
            refine dd_Rn.cV 2 (pc := 55) (ls := [.ref 148, .int a1, .int a2, .null]) (st := [.ref 148]) (x := m_X11_remembers) (as := [.ref 148]) (rest := []) rfl rfl rfl rfl h ?_
            intro I3 L3 h
            show dd_Rn (e + 16) m_X11_plant (58, [.ref 148, .int a1, .int a2, .null], [], sM Ln I3 L3 c s) _
            refine dd_Rn.sub 2 (pc := 60) (ls := [.ref 148, .int a1, .int a2, .null]) (st := [.int a1, .ref 148]) (M := sM Ln I3 L3 c s) (x := m_X11_hasTrees) (as := [.ref 148, .int a1]) (rest := []) rfl rfl rfl rfl ?_
            show dd_Rn (e + 15) m_X11_hasTrees (0, [.ref 148, .int a1], [], sM Ln I3 L3 c s) _
            obtain ⟨hc, h⟩ := h
            refine dd_Rn.go 5 (cf' := (8, [.ref 148, .int a1], [.int ((11 : Int32) + a1), .ref 149], sM Ln I3 L3 c s)) rfl ?_ (by omega)
            refine dd_Rn.ci (fun j0 => (8, [.ref 148, .int a1], [.int j0, .ref 149], sM Ln I3 L3 c s)) (fun j0 => (9, [.ref 148, .int a1], [.int (I3 149 (tn j0))], sM Ln I3 L3 c s)) (fun j0 => 0 ≤ j0 ∧ tn j0 < 2220) ((11 : Int32) + a1) (fun j0 hc h => dd_Rn.chk 0 (c := 0 ≤ j0 ∧ tn j0 < 2220) (A := (9, [.ref 148, .int a1], [.int (I3 149 (tn j0))], sM Ln I3 L3 c s)) rfl hc h (by omega)) hc ?_
            refine dd_Rn.se (cf := (9, [.ref 148, .int a1], [.int (I3 149 (tn ((11 : Int32) + a1)))], sM Ln I3 L3 c s)) ?_
            refine dd_Rn.ite 1 (c := I3 149 (tn ((11 : Int32) + a1)) = 1) (A := (13, [.ref 148, .int a1], [], sM Ln I3 L3 c s)) (B := (17, [.ref 148, .int a1], [], sM Ln I3 L3 c s)) rfl (fun hc => ?_) (fun hc => ?_) (by omega)
            · have h := h.1 hc
              refine dd_Rn.retK 2 (pc := 18) (ls := [.ref 148, .int a1]) (st := [.int 1]) (M := sM Ln I3 L3 c s) (o := (none, .int 1, sM Ln I3 L3 c s)) rfl rfl (dd_Af.ret rfl ?_) (by omega)
              show dd_Rn (e + 16) m_X11_plant (63, [.ref 148, .int a1, .int a2, .null], [.int 1], sM Ln I3 L3 c s) _
              refine dd_Rn.ite 7 (c := a2 = 0) (A := (80, [.ref 148, .int a1, .int a2, .int 1], [.int ((11 : Int32) + a1), .ref 149], sM Ln I3 L3 c s)) (B := (76, [.ref 148, .int a1, .int a2, .int 1], [.int ((11 : Int32) + a1), .ref 149], sM Ln I3 L3 c s)) rfl (fun hc => ?_) (fun hc => ?_) (by omega)
              · have h := h.1 hc
                exact dd_Rn.go 1 (cf' := (81, [.ref 148, .int a1, .int a2, .int 1], [.int 0, .int ((11 : Int32) + a1), .ref 149], sM Ln I3 L3 c s)) rfl h (by omega)
              · have h := h.2 hc
                exact dd_Rn.go 2 (cf' := (81, [.ref 148, .int a1, .int a2, .int 1], [.int 1, .int ((11 : Int32) + a1), .ref 149], sM Ln I3 L3 c s)) rfl h (by omega)
            · have h := h.2 hc
              refine dd_Rn.retK 1 (pc := 18) (ls := [.ref 148, .int a1]) (st := [.int 0]) (M := sM Ln I3 L3 c s) (o := (none, .int 0, sM Ln I3 L3 c s)) rfl rfl (dd_Af.ret rfl ?_) (by omega)
              show dd_Rn (e + 16) m_X11_plant (63, [.ref 148, .int a1, .int a2, .null], [.int 0], sM Ln I3 L3 c s) _
              refine dd_Rn.ite 7 (c := a2 = 0) (A := (80, [.ref 148, .int a1, .int a2, .int 0], [.int ((11 : Int32) + a1), .ref 149], sM Ln I3 L3 c s)) (B := (76, [.ref 148, .int a1, .int a2, .int 0], [.int ((11 : Int32) + a1), .ref 149], sM Ln I3 L3 c s)) rfl (fun hc => ?_) (fun hc => ?_) (by omega)
              · have h := h.1 hc
                exact dd_Rn.go 1 (cf' := (81, [.ref 148, .int a1, .int a2, .int 0], [.int 0, .int ((11 : Int32) + a1), .ref 149], sM Ln I3 L3 c s)) rfl h (by omega)
              · have h := h.2 hc
                exact dd_Rn.go 2 (cf' := (81, [.ref 148, .int a1, .int a2, .int 0], [.int 1, .int ((11 : Int32) + a1), .ref 149], sM Ln I3 L3 c s)) rfl h (by omega)
          · have h := h.2 hc
            refine dd_Rn.sub 3 (pc := 46) (ls := [.ref 148, .int a1, .int a2, .null]) (st := [.int 2, .int 1, .ref 148]) (M := sM Ln I2 L2 c s) (x := m_X11_throwsIf) (as := [.ref 148, .int 1, .int 2]) (rest := []) rfl rfl rfl rfl ?_
            show dd_Rn (e + 15) m_X11_throwsIf (0, [.ref 148, .int 1, .int 2], [], sM Ln I2 L2 c s) _
            refine dd_Rn.retK 6 (pc := 10) (ls := [.ref 148, .int 1, .int 2]) (st := [.int 1]) (M := sM Ln (dd_u I2 148 (upd (I2 148) 0 2)) L2 c s) (o := (none, .int 1, sM Ln (dd_u I2 148 (upd (I2 148) 0 2)) L2 c s)) rfl rfl (dd_Af.ret rfl ?_) (by omega)
            show dd_Rn (e + 16) m_X11_plant (49, [.ref 148, .int a1, .int a2, .null], [.int 1], sM Ln (dd_u I2 148 (upd (I2 148) 0 2)) L2 c s) _
            exact dd_Rn.retK 2 (pc := 53) (ls := [.ref 148, .int a1, .int a2, .null]) (st := [.int 0]) (M := sM Ln (dd_u I2 148 (upd (I2 148) 0 2)) L2 c s) (o := (none, .int 0, sM Ln (dd_u I2 148 (upd (I2 148) 0 2)) L2 c s)) rfl rfl h (by omega)

theorem w_X11_plant_81 {Ln d c s : Nat} {I : Nat → Nat → Int32} {L : Nat → Nat → Int64} {Q : dd_O → Prop} {a1 a2 a3 b1 b2 : Int32} (hd : 28 ≤ d) (h : ((0 ≤ b1 ∧ tn b1 < 2220) ∧ ((a3 = a2 → dd_Rn d m_X11_plant (92, [.ref 148, .int a1, .int a2, .int a3], [.int 0], sM Ln (dd_u I 149 (upd (I 149) (tn b1) b2)) L c s) Q) ∧ (¬ (a3 = a2) → dd_Rn d m_X11_plant (92, [.ref 148, .int a1, .int a2, .int a3], [.int 1], sM Ln (dd_u I 149 (upd (I 149) (tn b1) b2)) L c s) Q)))) : dd_Rn d m_X11_plant (81, [.ref 148, .int a1, .int a2, .int a3], [.int b2, .int b1, .ref 149], sM Ln I L c s) Q := by
  obtain ⟨e, rfl⟩ : ∃ e, d = e + 16 := ⟨d - 16, by omega⟩
  obtain ⟨hc, h⟩ := h
  refine dd_Rn.chk 0 (c := 0 ≤ b1 ∧ tn b1 < 2220) (A := (82, [.ref 148, .int a1, .int a2, .int a3], [], sM Ln (dd_u I 149 (upd (I 149) (tn b1) b2)) L c s)) rfl hc ?_ (by omega)
  refine dd_Rn.ite 2 (c := a3 = a2) (A := (91, [.ref 148, .int a1, .int a2, .int a3], [], sM Ln (dd_u I 149 (upd (I 149) (tn b1) b2)) L c s)) (B := (87, [.ref 148, .int a1, .int a2, .int a3], [], sM Ln (dd_u I 149 (upd (I 149) (tn b1) b2)) L c s)) rfl (fun hc => ?_) (fun hc => ?_) (by omega)
  · have h := h.1 hc
    exact dd_Rn.go 1 (cf' := (92, [.ref 148, .int a1, .int a2, .int a3], [.int 0], sM Ln (dd_u I 149 (upd (I 149) (tn b1) b2)) L c s)) rfl h (by omega)
  · have h := h.2 hc
    exact dd_Rn.go 2 (cf' := (92, [.ref 148, .int a1, .int a2, .int a3], [.int 1], sM Ln (dd_u I 149 (upd (I 149) (tn b1) b2)) L c s)) rfl h (by omega)

theorem w_X11_plant_92 {Ln d c s : Nat} {I : Nat → Nat → Int32} {L : Nat → Nat → Int64} {Q : dd_O → Prop} {a1 a2 a3 b0 : Int32} (hd : 28 ≤ d) (h : ((b0 = 0 ∨ b0 = 1) ∧ Q (none, .int b0, sM Ln I L c s))) : dd_Rn d m_X11_plant (92, [.ref 148, .int a1, .int a2, .int a3], [.int b0], sM Ln I L c s) Q := by
  obtain ⟨e, rfl⟩ : ∃ e, d = e + 16 := ⟨d - 16, by omega⟩
  obtain ⟨hc, h⟩ := h
  exact dd_Rn.retB 0 (cf' := (92, [.ref 148, .int a1, .int a2, .int a3], [.int b0], sM Ln I L c s)) (v := b0) rfl rfl hc h (by omega)

theorem w_X11_part_0 {Ln d c s : Nat} {I : Nat → Nat → Int32} {L : Nat → Nat → Int64} {Q : dd_O → Prop} {a1 a2 : Int32} (hd : 28 ≤ d) (h : ((a1 < 0 → Q (none, .int 0, sM Ln (dd_u (dd_u I 148 (upd (I 148) 0 0)) 148 (upd (upd (I 148) 0 0) 0 1)) L c s)) ∧ (¬ (a1 < 0) → (((I 149 1) - 1 < a1 → Q (none, .int 0, sM Ln (dd_u (dd_u I 148 (upd (I 148) 0 0)) 148 (upd (upd (I 148) 0 0) 0 1)) L c s)) ∧ (¬ ((I 149 1) - 1 < a1) → ((a2 < 0 → Q (none, .int 0, sM Ln (dd_u (dd_u I 148 (upd (I 148) 0 0)) 148 (upd (upd (I 148) 0 0) 0 1)) L c s)) ∧ (¬ (a2 < 0) → (((I 149 0) - 1 < a2 → Q (none, .int 0, sM Ln (dd_u (dd_u I 148 (upd (I 148) 0 0)) 148 (upd (upd (I 148) 0 0) 0 1)) L c s)) ∧ (¬ ((I 149 0) - 1 < a2) → dd_Ev (d - 1) m_X11_isNow [.ref 148, .int (((187 : Int32) + ((5 : Int32) * a1)) + 1), .int a2] (sM Ln (dd_u I 148 (upd (I 148) 0 0)) L c s) (dd_RI Ln c s (fun x1 I1 L1 => Q (none, .int x1, sM Ln I1 L1 c s)))))))))))) : dd_Ev d m_X11_part [.ref 148, .int a1, .int a2] (sM Ln I L c s) Q := by
  obtain ⟨e, rfl⟩ : ∃ e, d = e + 16 := ⟨d - 16, by omega⟩
  show dd_Rn (e + 16) m_X11_part (0, [.ref 148, .int a1, .int a2], [], sM Ln I L c s) Q
  refine dd_Rn.sub 6 (pc := 8) (ls := [.ref 148, .int a1, .int a2]) (st := [.int a1, .ref 148, .ref 148]) (M := sM Ln (dd_u I 148 (upd (I 148) 0 0)) L c s) (x := m_X11_noBoy) (as := [.ref 148, .int a1]) (rest := [.ref 148]) rfl rfl rfl rfl ?_
  show dd_Rn (e + 15) m_X11_noBoy (0, [.ref 148, .int a1], [], sM Ln (dd_u I 148 (upd (I 148) 0 0)) L c s) _
  refine dd_Rn.sub 3 (pc := 3) (ls := [.ref 148, .int a1]) (st := [.ref 148, .int 0, .int a1]) (M := sM Ln (dd_u I 148 (upd (I 148) 0 0)) L c s) (x := m_X11_boys) (as := [.ref 148]) (rest := [.int 0, .int a1]) rfl rfl rfl rfl ?_
  show dd_Rn (e + 14) m_X11_boys (0, [.ref 148], [], sM Ln (dd_u I 148 (upd (I 148) 0 0)) L c s) _
  refine dd_Rn.retK 4 (pc := 6) (ls := [.ref 148]) (st := [.int (I 149 1)]) (M := sM Ln (dd_u I 148 (upd (I 148) 0 0)) L c s) (o := (none, .int (I 149 1), sM Ln (dd_u I 148 (upd (I 148) 0 0)) L c s)) rfl rfl (dd_Af.ret rfl ?_) (by omega)
  show dd_Rn (e + 15) m_X11_noBoy (6, [.ref 148, .int a1], [.int (I 149 1), .int 0, .int a1], sM Ln (dd_u I 148 (upd (I 148) 0 0)) L c s) _
  refine dd_Rn.sub 2 (pc := 8) (ls := [.ref 148, .int a1]) (st := [.int ((I 149 1) - 1), .int 0, .int a1]) (M := sM Ln (dd_u I 148 (upd (I 148) 0 0)) L c s) (x := m_X11_in) (as := [.int a1, .int 0, .int ((I 149 1) - 1)]) (rest := []) rfl rfl rfl rfl ?_
  show dd_Rn (e + 14) m_X11_in (0, [.int a1, .int 0, .int ((I 149 1) - 1)], [], sM Ln (dd_u I 148 (upd (I 148) 0 0)) L c s) _
  refine dd_Rn.ite 2 (c := a1 < 0) (A := (14, [.int a1, .int 0, .int ((I 149 1) - 1)], [], sM Ln (dd_u I 148 (upd (I 148) 0 0)) L c s)) (B := (5, [.int a1, .int 0, .int ((I 149 1) - 1)], [], sM Ln (dd_u I 148 (upd (I 148) 0 0)) L c s)) rfl (fun hc => ?_) (fun hc => ?_) (by omega)
  · have h := h.1 hc
    refine dd_Rn.retK 1 (pc := 15) (ls := [.int a1, .int 0, .int ((I 149 1) - 1)]) (st := [.int 0]) (M := sM Ln (dd_u I 148 (upd (I 148) 0 0)) L c s) (o := (none, .int 0, sM Ln (dd_u I 148 (upd (I 148) 0 0)) L c s)) rfl rfl (dd_Af.ret rfl ?_) (by omega)
    show dd_Rn (e + 15) m_X11_noBoy (11, [.ref 148, .int a1], [.int 0], sM Ln (dd_u I 148 (upd (I 148) 0 0)) L c s) _
    refine dd_Rn.retK 3 (pc := 19) (ls := [.ref 148, .int a1]) (st := [.int 1]) (M := sM Ln (dd_u I 148 (upd (I 148) 0 0)) L c s) (o := (none, .int 1, sM Ln (dd_u I 148 (upd (I 148) 0 0)) L c s)) rfl rfl (dd_Af.ret rfl ?_) (by omega)
    show dd_Rn (e + 16) m_X11_part (11, [.ref 148, .int a1, .int a2], [.int 1, .ref 148], sM Ln (dd_u I 148 (upd (I 148) 0 0)) L c s) _
    refine dd_Rn.sub 4 (pc := 28) (ls := [.ref 148, .int a1, .int a2]) (st := [.int 1, .int 1, .ref 148]) (M := sM Ln (dd_u I 148 (upd (I 148) 0 0)) L c s) (x := m_X11_throwsIf) (as := [.ref 148, .int 1, .int 1]) (rest := []) rfl rfl rfl rfl ?_
    show dd_Rn (e + 15) m_X11_throwsIf (0, [.ref 148, .int 1, .int 1], [], sM Ln (dd_u I 148 (upd (I 148) 0 0)) L c s) _
    refine dd_Rn.retK 6 (pc := 10) (ls := [.ref 148, .int 1, .int 1]) (st := [.int 1]) (M := sM Ln (dd_u (dd_u I 148 (upd (I 148) 0 0)) 148 (upd (upd (I 148) 0 0) 0 1)) L c s) (o := (none, .int 1, sM Ln (dd_u (dd_u I 148 (upd (I 148) 0 0)) 148 (upd (upd (I 148) 0 0) 0 1)) L c s)) rfl rfl (dd_Af.ret rfl ?_) (by omega)
    show dd_Rn (e + 16) m_X11_part (31, [.ref 148, .int a1, .int a2], [.int 1], sM Ln (dd_u (dd_u I 148 (upd (I 148) 0 0)) 148 (upd (upd (I 148) 0 0) 0 1)) L c s) _
    exact dd_Rn.retK 3 (pc := 48) (ls := [.ref 148, .int a1, .int a2]) (st := [.int 0]) (M := sM Ln (dd_u (dd_u I 148 (upd (I 148) 0 0)) 148 (upd (upd (I 148) 0 0) 0 1)) L c s) (o := (none, .int 0, sM Ln (dd_u (dd_u I 148 (upd (I 148) 0 0)) 148 (upd (upd (I 148) 0 0) 0 1)) L c s)) rfl rfl h (by omega)
  · have h := h.2 hc
    refine dd_Rn.ite 2 (c := (I 149 1) - 1 < a1) (A := (14, [.int a1, .int 0, .int ((I 149 1) - 1)], [], sM Ln (dd_u I 148 (upd (I 148) 0 0)) L c s)) (B := (10, [.int a1, .int 0, .int ((I 149 1) - 1)], [], sM Ln (dd_u I 148 (upd (I 148) 0 0)) L c s)) rfl (fun hc => ?_) (fun hc => ?_) (by omega)
    · have h := h.1 hc
      refine dd_Rn.retK 1 (pc := 15) (ls := [.int a1, .int 0, .int ((I 149 1) - 1)]) (st := [.int 0]) (M := sM Ln (dd_u I 148 (upd (I 148) 0 0)) L c s) (o := (none, .int 0, sM Ln (dd_u I 148 (upd (I 148) 0 0)) L c s)) rfl rfl (dd_Af.ret rfl ?_) (by omega)
      show dd_Rn (e + 15) m_X11_noBoy (11, [.ref 148, .int a1], [.int 0], sM Ln (dd_u I 148 (upd (I 148) 0 0)) L c s) _
      refine dd_Rn.retK 3 (pc := 19) (ls := [.ref 148, .int a1]) (st := [.int 1]) (M := sM Ln (dd_u I 148 (upd (I 148) 0 0)) L c s) (o := (none, .int 1, sM Ln (dd_u I 148 (upd (I 148) 0 0)) L c s)) rfl rfl (dd_Af.ret rfl ?_) (by omega)
      show dd_Rn (e + 16) m_X11_part (11, [.ref 148, .int a1, .int a2], [.int 1, .ref 148], sM Ln (dd_u I 148 (upd (I 148) 0 0)) L c s) _
      refine dd_Rn.sub 4 (pc := 28) (ls := [.ref 148, .int a1, .int a2]) (st := [.int 1, .int 1, .ref 148]) (M := sM Ln (dd_u I 148 (upd (I 148) 0 0)) L c s) (x := m_X11_throwsIf) (as := [.ref 148, .int 1, .int 1]) (rest := []) rfl rfl rfl rfl ?_
      show dd_Rn (e + 15) m_X11_throwsIf (0, [.ref 148, .int 1, .int 1], [], sM Ln (dd_u I 148 (upd (I 148) 0 0)) L c s) _
      refine dd_Rn.retK 6 (pc := 10) (ls := [.ref 148, .int 1, .int 1]) (st := [.int 1]) (M := sM Ln (dd_u (dd_u I 148 (upd (I 148) 0 0)) 148 (upd (upd (I 148) 0 0) 0 1)) L c s) (o := (none, .int 1, sM Ln (dd_u (dd_u I 148 (upd (I 148) 0 0)) 148 (upd (upd (I 148) 0 0) 0 1)) L c s)) rfl rfl (dd_Af.ret rfl ?_) (by omega)
      show dd_Rn (e + 16) m_X11_part (31, [.ref 148, .int a1, .int a2], [.int 1], sM Ln (dd_u (dd_u I 148 (upd (I 148) 0 0)) 148 (upd (upd (I 148) 0 0) 0 1)) L c s) _
      exact dd_Rn.retK 3 (pc := 48) (ls := [.ref 148, .int a1, .int a2]) (st := [.int 0]) (M := sM Ln (dd_u (dd_u I 148 (upd (I 148) 0 0)) 148 (upd (upd (I 148) 0 0) 0 1)) L c s) (o := (none, .int 0, sM Ln (dd_u (dd_u I 148 (upd (I 148) 0 0)) 148 (upd (upd (I 148) 0 0) 0 1)) L c s)) rfl rfl h (by omega)
    · have h := h.2 hc
      refine dd_Rn.retK 2 (pc := 15) (ls := [.int a1, .int 0, .int ((I 149 1) - 1)]) (st := [.int 1]) (M := sM Ln (dd_u I 148 (upd (I 148) 0 0)) L c s) (o := (none, .int 1, sM Ln (dd_u I 148 (upd (I 148) 0 0)) L c s)) rfl rfl (dd_Af.ret rfl ?_) (by omega)
      show dd_Rn (e + 15) m_X11_noBoy (11, [.ref 148, .int a1], [.int 1], sM Ln (dd_u I 148 (upd (I 148) 0 0)) L c s) _
      refine dd_Rn.retK 2 (pc := 19) (ls := [.ref 148, .int a1]) (st := [.int 0]) (M := sM Ln (dd_u I 148 (upd (I 148) 0 0)) L c s) (o := (none, .int 0, sM Ln (dd_u I 148 (upd (I 148) 0 0)) L c s)) rfl rfl (dd_Af.ret rfl ?_) (by omega)
      show dd_Rn (e + 16) m_X11_part (11, [.ref 148, .int a1, .int a2], [.int 0, .ref 148], sM Ln (dd_u I 148 (upd (I 148) 0 0)) L c s) _
      refine dd_Rn.sub 3 (pc := 16) (ls := [.ref 148, .int a1, .int a2]) (st := [.int a2, .ref 148, .ref 148]) (M := sM Ln (dd_u I 148 (upd (I 148) 0 0)) L c s) (x := m_X11_noPart) (as := [.ref 148, .int a2]) (rest := [.ref 148]) rfl rfl rfl rfl ?_
      show dd_Rn (e + 15) m_X11_noPart (0, [.ref 148, .int a2], [], sM Ln (dd_u I 148 (upd (I 148) 0 0)) L c s) _
      refine dd_Rn.sub 3 (pc := 3) (ls := [.ref 148, .int a2]) (st := [.ref 148, .int 0, .int a2]) (M := sM Ln (dd_u I 148 (upd (I 148) 0 0)) L c s) (x := m_X11_parts) (as := [.ref 148]) (rest := [.int 0, .int a2]) rfl rfl rfl rfl ?_
      show dd_Rn (e + 14) m_X11_parts (0, [.ref 148], [], sM Ln (dd_u I 148 (upd (I 148) 0 0)) L c s) _
      refine dd_Rn.retK 4 (pc := 6) (ls := [.ref 148]) (st := [.int (I 149 0)]) (M := sM Ln (dd_u I 148 (upd (I 148) 0 0)) L c s) (o := (none, .int (I 149 0), sM Ln (dd_u I 148 (upd (I 148) 0 0)) L c s)) rfl rfl (dd_Af.ret rfl ?_) (by omega)
      show dd_Rn (e + 15) m_X11_noPart (6, [.ref 148, .int a2], [.int (I 149 0), .int 0, .int a2], sM Ln (dd_u I 148 (upd (I 148) 0 0)) L c s) _
      refine dd_Rn.sub 2 (pc := 8) (ls := [.ref 148, .int a2]) (st := [.int ((I 149 0) - 1), .int 0, .int a2]) (M := sM Ln (dd_u I 148 (upd (I 148) 0 0)) L c s) (x := m_X11_in) (as := [.int a2, .int 0, .int ((I 149 0) - 1)]) (rest := []) rfl rfl rfl rfl ?_
      show dd_Rn (e + 14) m_X11_in (0, [.int a2, .int 0, .int ((I 149 0) - 1)], [], sM Ln (dd_u I 148 (upd (I 148) 0 0)) L c s) _
      refine dd_Rn.ite 2 (c := a2 < 0) (A := (14, [.int a2, .int 0, .int ((I 149 0) - 1)], [], sM Ln (dd_u I 148 (upd (I 148) 0 0)) L c s)) (B := (5, [.int a2, .int 0, .int ((I 149 0) - 1)], [], sM Ln (dd_u I 148 (upd (I 148) 0 0)) L c s)) rfl (fun hc => ?_) (fun hc => ?_) (by omega)
      · have h := h.1 hc
        refine dd_Rn.retK 1 (pc := 15) (ls := [.int a2, .int 0, .int ((I 149 0) - 1)]) (st := [.int 0]) (M := sM Ln (dd_u I 148 (upd (I 148) 0 0)) L c s) (o := (none, .int 0, sM Ln (dd_u I 148 (upd (I 148) 0 0)) L c s)) rfl rfl (dd_Af.ret rfl ?_) (by omega)
        show dd_Rn (e + 15) m_X11_noPart (11, [.ref 148, .int a2], [.int 0], sM Ln (dd_u I 148 (upd (I 148) 0 0)) L c s) _
        refine dd_Rn.retK 3 (pc := 19) (ls := [.ref 148, .int a2]) (st := [.int 1]) (M := sM Ln (dd_u I 148 (upd (I 148) 0 0)) L c s) (o := (none, .int 1, sM Ln (dd_u I 148 (upd (I 148) 0 0)) L c s)) rfl rfl (dd_Af.ret rfl ?_) (by omega)
        show dd_Rn (e + 16) m_X11_part (19, [.ref 148, .int a1, .int a2], [.int 1, .ref 148], sM Ln (dd_u I 148 (upd (I 148) 0 0)) L c s) _
        refine dd_Rn.sub 4 (pc := 28) (ls := [.ref 148, .int a1, .int a2]) (st := [.int 1, .int 1, .ref 148]) (M := sM Ln (dd_u I 148 (upd (I 148) 0 0)) L c s) (x := m_X11_throwsIf) (as := [.ref 148, .int 1, .int 1]) (rest := []) rfl rfl rfl rfl ?_
        show dd_Rn (e + 15) m_X11_throwsIf (0, [.ref 148, .int 1, .int 1], [], sM Ln (dd_u I 148 (upd (I 148) 0 0)) L c s) _
        refine dd_Rn.retK 6 (pc := 10) (ls := [.ref 148, .int 1, .int 1]) (st := [.int 1]) (M := sM Ln (dd_u (dd_u I 148 (upd (I 148) 0 0)) 148 (upd (upd (I 148) 0 0) 0 1)) L c s) (o := (none, .int 1, sM Ln (dd_u (dd_u I 148 (upd (I 148) 0 0)) 148 (upd (upd (I 148) 0 0) 0 1)) L c s)) rfl rfl (dd_Af.ret rfl ?_) (by omega)
        show dd_Rn (e + 16) m_X11_part (31, [.ref 148, .int a1, .int a2], [.int 1], sM Ln (dd_u (dd_u I 148 (upd (I 148) 0 0)) 148 (upd (upd (I 148) 0 0) 0 1)) L c s) _
        exact dd_Rn.retK 3 (pc := 48) (ls := [.ref 148, .int a1, .int a2]) (st := [.int 0]) (M := sM Ln (dd_u (dd_u I 148 (upd (I 148) 0 0)) 148 (upd (upd (I 148) 0 0) 0 1)) L c s) (o := (none, .int 0, sM Ln (dd_u (dd_u I 148 (upd (I 148) 0 0)) 148 (upd (upd (I 148) 0 0) 0 1)) L c s)) rfl rfl h (by omega)
      · have h := h.2 hc
        refine dd_Rn.ite 2 (c := (I 149 0) - 1 < a2) (A := (14, [.int a2, .int 0, .int ((I 149 0) - 1)], [], sM Ln (dd_u I 148 (upd (I 148) 0 0)) L c s)) (B := (10, [.int a2, .int 0, .int ((I 149 0) - 1)], [], sM Ln (dd_u I 148 (upd (I 148) 0 0)) L c s)) rfl (fun hc => ?_) (fun hc => ?_) (by omega)
        · have h := h.1 hc
          refine dd_Rn.retK 1 (pc := 15) (ls := [.int a2, .int 0, .int ((I 149 0) - 1)]) (st := [.int 0]) (M := sM Ln (dd_u I 148 (upd (I 148) 0 0)) L c s) (o := (none, .int 0, sM Ln (dd_u I 148 (upd (I 148) 0 0)) L c s)) rfl rfl (dd_Af.ret rfl ?_) (by omega)
          show dd_Rn (e + 15) m_X11_noPart (11, [.ref 148, .int a2], [.int 0], sM Ln (dd_u I 148 (upd (I 148) 0 0)) L c s) _
          refine dd_Rn.retK 3 (pc := 19) (ls := [.ref 148, .int a2]) (st := [.int 1]) (M := sM Ln (dd_u I 148 (upd (I 148) 0 0)) L c s) (o := (none, .int 1, sM Ln (dd_u I 148 (upd (I 148) 0 0)) L c s)) rfl rfl (dd_Af.ret rfl ?_) (by omega)
          show dd_Rn (e + 16) m_X11_part (19, [.ref 148, .int a1, .int a2], [.int 1, .ref 148], sM Ln (dd_u I 148 (upd (I 148) 0 0)) L c s) _
          refine dd_Rn.sub 4 (pc := 28) (ls := [.ref 148, .int a1, .int a2]) (st := [.int 1, .int 1, .ref 148]) (M := sM Ln (dd_u I 148 (upd (I 148) 0 0)) L c s) (x := m_X11_throwsIf) (as := [.ref 148, .int 1, .int 1]) (rest := []) rfl rfl rfl rfl ?_
          show dd_Rn (e + 15) m_X11_throwsIf (0, [.ref 148, .int 1, .int 1], [], sM Ln (dd_u I 148 (upd (I 148) 0 0)) L c s) _
          refine dd_Rn.retK 6 (pc := 10) (ls := [.ref 148, .int 1, .int 1]) (st := [.int 1]) (M := sM Ln (dd_u (dd_u I 148 (upd (I 148) 0 0)) 148 (upd (upd (I 148) 0 0) 0 1)) L c s) (o := (none, .int 1, sM Ln (dd_u (dd_u I 148 (upd (I 148) 0 0)) 148 (upd (upd (I 148) 0 0) 0 1)) L c s)) rfl rfl (dd_Af.ret rfl ?_) (by omega)
          show dd_Rn (e + 16) m_X11_part (31, [.ref 148, .int a1, .int a2], [.int 1], sM Ln (dd_u (dd_u I 148 (upd (I 148) 0 0)) 148 (upd (upd (I 148) 0 0) 0 1)) L c s) _
          exact dd_Rn.retK 3 (pc := 48) (ls := [.ref 148, .int a1, .int a2]) (st := [.int 0]) (M := sM Ln (dd_u (dd_u I 148 (upd (I 148) 0 0)) 148 (upd (upd (I 148) 0 0) 0 1)) L c s) (o := (none, .int 0, sM Ln (dd_u (dd_u I 148 (upd (I 148) 0 0)) 148 (upd (upd (I 148) 0 0) 0 1)) L c s)) rfl rfl h (by omega)
        · have h := h.2 hc
          refine dd_Rn.retK 2 (pc := 15) (ls := [.int a2, .int 0, .int ((I 149 0) - 1)]) (st := [.int 1]) (M := sM Ln (dd_u I 148 (upd (I 148) 0 0)) L c s) (o := (none, .int 1, sM Ln (dd_u I 148 (upd (I 148) 0 0)) L c s)) rfl rfl (dd_Af.ret rfl ?_) (by omega)
          show dd_Rn (e + 15) m_X11_noPart (11, [.ref 148, .int a2], [.int 1], sM Ln (dd_u I 148 (upd (I 148) 0 0)) L c s) _
          refine dd_Rn.retK 2 (pc := 19) (ls := [.ref 148, .int a2]) (st := [.int 0]) (M := sM Ln (dd_u I 148 (upd (I 148) 0 0)) L c s) (o := (none, .int 0, sM Ln (dd_u I 148 (upd (I 148) 0 0)) L c s)) rfl rfl (dd_Af.ret rfl ?_) (by omega)
          show dd_Rn (e + 16) m_X11_part (19, [.ref 148, .int a1, .int a2], [.int 0, .ref 148], sM Ln (dd_u I 148 (upd (I 148) 0 0)) L c s) _
          refine dd_Rn.sub 3 (pc := 28) (ls := [.ref 148, .int a1, .int a2]) (st := [.int 1, .int 0, .ref 148]) (M := sM Ln (dd_u I 148 (upd (I 148) 0 0)) L c s) (x := m_X11_throwsIf) (as := [.ref 148, .int 0, .int 1]) (rest := []) rfl rfl rfl rfl ?_
          show dd_Rn (e + 15) m_X11_throwsIf (0, [.ref 148, .int 0, .int 1], [], sM Ln (dd_u I 148 (upd (I 148) 0 0)) L c s) _
          refine dd_Rn.retK 3 (pc := 10) (ls := [.ref 148, .int 0, .int 1]) (st := [.int 0]) (M := sM Ln (dd_u I 148 (upd (I 148) 0 0)) L c s) (o := (none, .int 0, sM Ln (dd_u I 148 (upd (I 148) 0 0)) L c s)) rfl rfl (dd_Af.ret rfl ?_) (by omega)
          show dd_Rn (e + 16) m_X11_part (31, [.ref 148, .int a1, .int a2], [.int 0], sM Ln (dd_u I 148 (upd (I 148) 0 0)) L c s) _
          refine dd_Rn.sub 4 (pc := 41) (ls := [.ref 148, .int a1, .int a2]) (st := [.int 1, .int a1, .ref 148]) (M := sM Ln (dd_u I 148 (upd (I 148) 0 0)) L c s) (x := m_X11_at) (as := [.int a1, .int 1]) (rest := [.ref 148]) rfl rfl rfl rfl ?_
          show dd_Rn (e + 15) m_X11_at (0, [.int a1, .int 1], [], sM Ln (dd_u I 148 (upd (I 148) 0 0)) L c s) _
          refine dd_Rn.retK 7 (pc := 9) (ls := [.int a1, .int 1]) (st := [.int (((187 : Int32) + ((5 : Int32) * a1)) + 1)]) (M := sM Ln (dd_u I 148 (upd (I 148) 0 0)) L c s) (o := (none, .int (((187 : Int32) + ((5 : Int32) * a1)) + 1), sM Ln (dd_u I 148 (upd (I 148) 0 0)) L c s)) rfl rfl (dd_Af.ret rfl ?_) (by omega)
          show dd_Rn (e + 16) m_X11_part (44, [.ref 148, .int a1, .int a2], [.int (((187 : Int32) + ((5 : Int32) * a1)) + 1), .ref 148], sM Ln (dd_u I 148 (upd (I 148) 0 0)) L c s) _
          refine dd_Rn.cI 1 (pc := 45) (ls := [.ref 148, .int a1, .int a2]) (st := [.int a2, .int (((187 : Int32) + ((5 : Int32) * a1)) + 1), .ref 148]) (x := m_X11_isNow) (as := [.ref 148, .int (((187 : Int32) + ((5 : Int32) * a1)) + 1), .int a2]) (rest := []) rfl rfl rfl rfl h ?_
          intro x1 I1 L1 h
          show dd_Rn (e + 16) m_X11_part (48, [.ref 148, .int a1, .int a2], [.int x1], sM Ln I1 L1 c s) _
          exact dd_Rn.retK 0 (pc := 48) (ls := [.ref 148, .int a1, .int a2]) (st := [.int x1]) (M := sM Ln I1 L1 c s) (o := (none, .int x1, sM Ln I1 L1 c s)) rfl rfl h (by omega)

theorem w_X11_tune_0 {Ln d c s : Nat} {I : Nat → Nat → Int32} {L : Nat → Nat → Int64} {Q : dd_O → Prop} {a1 a2 a3 : Int32} (hd : 28 ≤ d) (h : ((a1 < 0 → Q (none, .int 0, sM Ln (dd_u (dd_u I 148 (upd (I 148) 0 0)) 148 (upd (upd (I 148) 0 0) 0 1)) L c s)) ∧ (¬ (a1 < 0) → (((I 149 0) - 1 < a1 → Q (none, .int 0, sM Ln (dd_u (dd_u I 148 (upd (I 148) 0 0)) 148 (upd (upd (I 148) 0 0) 0 1)) L c s)) ∧ (¬ ((I 149 0) - 1 < a1) → ((a2 < 0 → Q (none, .int 0, sM Ln (dd_u (dd_u I 148 (upd (I 148) 0 0)) 148 (upd (upd (I 148) 0 0) 0 1)) L c s)) ∧ (¬ (a2 < 0) → (((7 : Int32) < a2 → Q (none, .int 0, sM Ln (dd_u (dd_u I 148 (upd (I 148) 0 0)) 148 (upd (upd (I 148) 0 0) 0 1)) L c s)) ∧ (¬ ((7 : Int32) < a2) → ((a3 < 0 → Q (none, .int 0, sM Ln (dd_u (dd_u I 148 (upd (I 148) 0 0)) 148 (upd (upd (I 148) 0 0) 0 2)) L c s)) ∧ (¬ (a3 < 0) → (((7 : Int32) < a3 → Q (none, .int 0, sM Ln (dd_u (dd_u I 148 (upd (I 148) 0 0)) 148 (upd (upd (I 148) 0 0) 0 2)) L c s)) ∧ (¬ ((7 : Int32) < a3) → dd_Ev (d - 1) m_X11_isNow [.ref 148, .int (((139 : Int32) + ((8 : Int32) * a1)) + a2), .int a3] (sM Ln (dd_u I 148 (upd (I 148) 0 0)) L c s) (dd_RI Ln c s (fun x1 I1 L1 => Q (none, .int x1, sM Ln I1 L1 c s)))))))))))))))) : dd_Ev d m_X11_tune [.ref 148, .int a1, .int a2, .int a3] (sM Ln I L c s) Q := by
  obtain ⟨e, rfl⟩ : ∃ e, d = e + 16 := ⟨d - 16, by omega⟩
  show dd_Rn (e + 16) m_X11_tune (0, [.ref 148, .int a1, .int a2, .int a3], [], sM Ln I L c s) Q
  refine dd_Rn.sub 6 (pc := 8) (ls := [.ref 148, .int a1, .int a2, .int a3]) (st := [.int a1, .ref 148, .ref 148]) (M := sM Ln (dd_u I 148 (upd (I 148) 0 0)) L c s) (x := m_X11_noPart) (as := [.ref 148, .int a1]) (rest := [.ref 148]) rfl rfl rfl rfl ?_
  show dd_Rn (e + 15) m_X11_noPart (0, [.ref 148, .int a1], [], sM Ln (dd_u I 148 (upd (I 148) 0 0)) L c s) _
  refine dd_Rn.sub 3 (pc := 3) (ls := [.ref 148, .int a1]) (st := [.ref 148, .int 0, .int a1]) (M := sM Ln (dd_u I 148 (upd (I 148) 0 0)) L c s) (x := m_X11_parts) (as := [.ref 148]) (rest := [.int 0, .int a1]) rfl rfl rfl rfl ?_
  show dd_Rn (e + 14) m_X11_parts (0, [.ref 148], [], sM Ln (dd_u I 148 (upd (I 148) 0 0)) L c s) _
  refine dd_Rn.retK 4 (pc := 6) (ls := [.ref 148]) (st := [.int (I 149 0)]) (M := sM Ln (dd_u I 148 (upd (I 148) 0 0)) L c s) (o := (none, .int (I 149 0), sM Ln (dd_u I 148 (upd (I 148) 0 0)) L c s)) rfl rfl (dd_Af.ret rfl ?_) (by omega)
  show dd_Rn (e + 15) m_X11_noPart (6, [.ref 148, .int a1], [.int (I 149 0), .int 0, .int a1], sM Ln (dd_u I 148 (upd (I 148) 0 0)) L c s) _
  refine dd_Rn.sub 2 (pc := 8) (ls := [.ref 148, .int a1]) (st := [.int ((I 149 0) - 1), .int 0, .int a1]) (M := sM Ln (dd_u I 148 (upd (I 148) 0 0)) L c s) (x := m_X11_in) (as := [.int a1, .int 0, .int ((I 149 0) - 1)]) (rest := []) rfl rfl rfl rfl ?_
  show dd_Rn (e + 14) m_X11_in (0, [.int a1, .int 0, .int ((I 149 0) - 1)], [], sM Ln (dd_u I 148 (upd (I 148) 0 0)) L c s) _
  refine dd_Rn.ite 2 (c := a1 < 0) (A := (14, [.int a1, .int 0, .int ((I 149 0) - 1)], [], sM Ln (dd_u I 148 (upd (I 148) 0 0)) L c s)) (B := (5, [.int a1, .int 0, .int ((I 149 0) - 1)], [], sM Ln (dd_u I 148 (upd (I 148) 0 0)) L c s)) rfl (fun hc => ?_) (fun hc => ?_) (by omega)
  · have h := h.1 hc
    refine dd_Rn.retK 1 (pc := 15) (ls := [.int a1, .int 0, .int ((I 149 0) - 1)]) (st := [.int 0]) (M := sM Ln (dd_u I 148 (upd (I 148) 0 0)) L c s) (o := (none, .int 0, sM Ln (dd_u I 148 (upd (I 148) 0 0)) L c s)) rfl rfl (dd_Af.ret rfl ?_) (by omega)
    show dd_Rn (e + 15) m_X11_noPart (11, [.ref 148, .int a1], [.int 0], sM Ln (dd_u I 148 (upd (I 148) 0 0)) L c s) _
    refine dd_Rn.retK 3 (pc := 19) (ls := [.ref 148, .int a1]) (st := [.int 1]) (M := sM Ln (dd_u I 148 (upd (I 148) 0 0)) L c s) (o := (none, .int 1, sM Ln (dd_u I 148 (upd (I 148) 0 0)) L c s)) rfl rfl (dd_Af.ret rfl ?_) (by omega)
    show dd_Rn (e + 16) m_X11_tune (11, [.ref 148, .int a1, .int a2, .int a3], [.int 1, .ref 148], sM Ln (dd_u I 148 (upd (I 148) 0 0)) L c s) _
    refine dd_Rn.sub 4 (pc := 27) (ls := [.ref 148, .int a1, .int a2, .int a3]) (st := [.int 1, .int 1, .ref 148]) (M := sM Ln (dd_u I 148 (upd (I 148) 0 0)) L c s) (x := m_X11_throwsIf) (as := [.ref 148, .int 1, .int 1]) (rest := []) rfl rfl rfl rfl ?_
    show dd_Rn (e + 15) m_X11_throwsIf (0, [.ref 148, .int 1, .int 1], [], sM Ln (dd_u I 148 (upd (I 148) 0 0)) L c s) _
    refine dd_Rn.retK 6 (pc := 10) (ls := [.ref 148, .int 1, .int 1]) (st := [.int 1]) (M := sM Ln (dd_u (dd_u I 148 (upd (I 148) 0 0)) 148 (upd (upd (I 148) 0 0) 0 1)) L c s) (o := (none, .int 1, sM Ln (dd_u (dd_u I 148 (upd (I 148) 0 0)) 148 (upd (upd (I 148) 0 0) 0 1)) L c s)) rfl rfl (dd_Af.ret rfl ?_) (by omega)
    show dd_Rn (e + 16) m_X11_tune (30, [.ref 148, .int a1, .int a2, .int a3], [.int 1], sM Ln (dd_u (dd_u I 148 (upd (I 148) 0 0)) 148 (upd (upd (I 148) 0 0) 0 1)) L c s) _
    exact dd_Rn.retK 2 (pc := 57) (ls := [.ref 148, .int a1, .int a2, .int a3]) (st := [.int 0]) (M := sM Ln (dd_u (dd_u I 148 (upd (I 148) 0 0)) 148 (upd (upd (I 148) 0 0) 0 1)) L c s) (o := (none, .int 0, sM Ln (dd_u (dd_u I 148 (upd (I 148) 0 0)) 148 (upd (upd (I 148) 0 0) 0 1)) L c s)) rfl rfl h (by omega)
  · have h := h.2 hc
    refine dd_Rn.ite 2 (c := (I 149 0) - 1 < a1) (A := (14, [.int a1, .int 0, .int ((I 149 0) - 1)], [], sM Ln (dd_u I 148 (upd (I 148) 0 0)) L c s)) (B := (10, [.int a1, .int 0, .int ((I 149 0) - 1)], [], sM Ln (dd_u I 148 (upd (I 148) 0 0)) L c s)) rfl (fun hc => ?_) (fun hc => ?_) (by omega)
    · have h := h.1 hc
      refine dd_Rn.retK 1 (pc := 15) (ls := [.int a1, .int 0, .int ((I 149 0) - 1)]) (st := [.int 0]) (M := sM Ln (dd_u I 148 (upd (I 148) 0 0)) L c s) (o := (none, .int 0, sM Ln (dd_u I 148 (upd (I 148) 0 0)) L c s)) rfl rfl (dd_Af.ret rfl ?_) (by omega)
      show dd_Rn (e + 15) m_X11_noPart (11, [.ref 148, .int a1], [.int 0], sM Ln (dd_u I 148 (upd (I 148) 0 0)) L c s) _
      refine dd_Rn.retK 3 (pc := 19) (ls := [.ref 148, .int a1]) (st := [.int 1]) (M := sM Ln (dd_u I 148 (upd (I 148) 0 0)) L c s) (o := (none, .int 1, sM Ln (dd_u I 148 (upd (I 148) 0 0)) L c s)) rfl rfl (dd_Af.ret rfl ?_) (by omega)
      show dd_Rn (e + 16) m_X11_tune (11, [.ref 148, .int a1, .int a2, .int a3], [.int 1, .ref 148], sM Ln (dd_u I 148 (upd (I 148) 0 0)) L c s) _
      refine dd_Rn.sub 4 (pc := 27) (ls := [.ref 148, .int a1, .int a2, .int a3]) (st := [.int 1, .int 1, .ref 148]) (M := sM Ln (dd_u I 148 (upd (I 148) 0 0)) L c s) (x := m_X11_throwsIf) (as := [.ref 148, .int 1, .int 1]) (rest := []) rfl rfl rfl rfl ?_
      show dd_Rn (e + 15) m_X11_throwsIf (0, [.ref 148, .int 1, .int 1], [], sM Ln (dd_u I 148 (upd (I 148) 0 0)) L c s) _
      refine dd_Rn.retK 6 (pc := 10) (ls := [.ref 148, .int 1, .int 1]) (st := [.int 1]) (M := sM Ln (dd_u (dd_u I 148 (upd (I 148) 0 0)) 148 (upd (upd (I 148) 0 0) 0 1)) L c s) (o := (none, .int 1, sM Ln (dd_u (dd_u I 148 (upd (I 148) 0 0)) 148 (upd (upd (I 148) 0 0) 0 1)) L c s)) rfl rfl (dd_Af.ret rfl ?_) (by omega)
      show dd_Rn (e + 16) m_X11_tune (30, [.ref 148, .int a1, .int a2, .int a3], [.int 1], sM Ln (dd_u (dd_u I 148 (upd (I 148) 0 0)) 148 (upd (upd (I 148) 0 0) 0 1)) L c s) _
      exact dd_Rn.retK 2 (pc := 57) (ls := [.ref 148, .int a1, .int a2, .int a3]) (st := [.int 0]) (M := sM Ln (dd_u (dd_u I 148 (upd (I 148) 0 0)) 148 (upd (upd (I 148) 0 0) 0 1)) L c s) (o := (none, .int 0, sM Ln (dd_u (dd_u I 148 (upd (I 148) 0 0)) 148 (upd (upd (I 148) 0 0) 0 1)) L c s)) rfl rfl h (by omega)
    · have h := h.2 hc
      refine dd_Rn.retK 2 (pc := 15) (ls := [.int a1, .int 0, .int ((I 149 0) - 1)]) (st := [.int 1]) (M := sM Ln (dd_u I 148 (upd (I 148) 0 0)) L c s) (o := (none, .int 1, sM Ln (dd_u I 148 (upd (I 148) 0 0)) L c s)) rfl rfl (dd_Af.ret rfl ?_) (by omega)
      show dd_Rn (e + 15) m_X11_noPart (11, [.ref 148, .int a1], [.int 1], sM Ln (dd_u I 148 (upd (I 148) 0 0)) L c s) _
      refine dd_Rn.retK 2 (pc := 19) (ls := [.ref 148, .int a1]) (st := [.int 0]) (M := sM Ln (dd_u I 148 (upd (I 148) 0 0)) L c s) (o := (none, .int 0, sM Ln (dd_u I 148 (upd (I 148) 0 0)) L c s)) rfl rfl (dd_Af.ret rfl ?_) (by omega)
      show dd_Rn (e + 16) m_X11_tune (11, [.ref 148, .int a1, .int a2, .int a3], [.int 0, .ref 148], sM Ln (dd_u I 148 (upd (I 148) 0 0)) L c s) _
      refine dd_Rn.sub 2 (pc := 15) (ls := [.ref 148, .int a1, .int a2, .int a3]) (st := [.int a2, .ref 148]) (M := sM Ln (dd_u I 148 (upd (I 148) 0 0)) L c s) (x := m_X11_noBeat) (as := [.int a2]) (rest := [.ref 148]) rfl rfl rfl rfl ?_
      show dd_Rn (e + 15) m_X11_noBeat (0, [.int a2], [], sM Ln (dd_u I 148 (upd (I 148) 0 0)) L c s) _
      refine dd_Rn.sub 3 (pc := 4) (ls := [.int a2]) (st := [.int 7, .int 0, .int a2]) (M := sM Ln (dd_u I 148 (upd (I 148) 0 0)) L c s) (x := m_X11_in) (as := [.int a2, .int 0, .int 7]) (rest := []) rfl rfl rfl rfl ?_
      show dd_Rn (e + 14) m_X11_in (0, [.int a2, .int 0, .int 7], [], sM Ln (dd_u I 148 (upd (I 148) 0 0)) L c s) _
      refine dd_Rn.ite 2 (c := a2 < 0) (A := (14, [.int a2, .int 0, .int 7], [], sM Ln (dd_u I 148 (upd (I 148) 0 0)) L c s)) (B := (5, [.int a2, .int 0, .int 7], [], sM Ln (dd_u I 148 (upd (I 148) 0 0)) L c s)) rfl (fun hc => ?_) (fun hc => ?_) (by omega)
      · have h := h.1 hc
        refine dd_Rn.retK 1 (pc := 15) (ls := [.int a2, .int 0, .int 7]) (st := [.int 0]) (M := sM Ln (dd_u I 148 (upd (I 148) 0 0)) L c s) (o := (none, .int 0, sM Ln (dd_u I 148 (upd (I 148) 0 0)) L c s)) rfl rfl (dd_Af.ret rfl ?_) (by omega)
        show dd_Rn (e + 15) m_X11_noBeat (7, [.int a2], [.int 0], sM Ln (dd_u I 148 (upd (I 148) 0 0)) L c s) _
        refine dd_Rn.retK 3 (pc := 15) (ls := [.int a2]) (st := [.int 1]) (M := sM Ln (dd_u I 148 (upd (I 148) 0 0)) L c s) (o := (none, .int 1, sM Ln (dd_u I 148 (upd (I 148) 0 0)) L c s)) rfl rfl (dd_Af.ret rfl ?_) (by omega)
        show dd_Rn (e + 16) m_X11_tune (18, [.ref 148, .int a1, .int a2, .int a3], [.int 1, .ref 148], sM Ln (dd_u I 148 (upd (I 148) 0 0)) L c s) _
        refine dd_Rn.sub 4 (pc := 27) (ls := [.ref 148, .int a1, .int a2, .int a3]) (st := [.int 1, .int 1, .ref 148]) (M := sM Ln (dd_u I 148 (upd (I 148) 0 0)) L c s) (x := m_X11_throwsIf) (as := [.ref 148, .int 1, .int 1]) (rest := []) rfl rfl rfl rfl ?_
        show dd_Rn (e + 15) m_X11_throwsIf (0, [.ref 148, .int 1, .int 1], [], sM Ln (dd_u I 148 (upd (I 148) 0 0)) L c s) _
        refine dd_Rn.retK 6 (pc := 10) (ls := [.ref 148, .int 1, .int 1]) (st := [.int 1]) (M := sM Ln (dd_u (dd_u I 148 (upd (I 148) 0 0)) 148 (upd (upd (I 148) 0 0) 0 1)) L c s) (o := (none, .int 1, sM Ln (dd_u (dd_u I 148 (upd (I 148) 0 0)) 148 (upd (upd (I 148) 0 0) 0 1)) L c s)) rfl rfl (dd_Af.ret rfl ?_) (by omega)
        show dd_Rn (e + 16) m_X11_tune (30, [.ref 148, .int a1, .int a2, .int a3], [.int 1], sM Ln (dd_u (dd_u I 148 (upd (I 148) 0 0)) 148 (upd (upd (I 148) 0 0) 0 1)) L c s) _
        exact dd_Rn.retK 2 (pc := 57) (ls := [.ref 148, .int a1, .int a2, .int a3]) (st := [.int 0]) (M := sM Ln (dd_u (dd_u I 148 (upd (I 148) 0 0)) 148 (upd (upd (I 148) 0 0) 0 1)) L c s) (o := (none, .int 0, sM Ln (dd_u (dd_u I 148 (upd (I 148) 0 0)) 148 (upd (upd (I 148) 0 0) 0 1)) L c s)) rfl rfl h (by omega)
      · have h := h.2 hc
        refine dd_Rn.ite 2 (c := (7 : Int32) < a2) (A := (14, [.int a2, .int 0, .int 7], [], sM Ln (dd_u I 148 (upd (I 148) 0 0)) L c s)) (B := (10, [.int a2, .int 0, .int 7], [], sM Ln (dd_u I 148 (upd (I 148) 0 0)) L c s)) rfl (fun hc => ?_) (fun hc => ?_) (by omega)
        · have h := h.1 hc
          refine dd_Rn.retK 1 (pc := 15) (ls := [.int a2, .int 0, .int 7]) (st := [.int 0]) (M := sM Ln (dd_u I 148 (upd (I 148) 0 0)) L c s) (o := (none, .int 0, sM Ln (dd_u I 148 (upd (I 148) 0 0)) L c s)) rfl rfl (dd_Af.ret rfl ?_) (by omega)
          show dd_Rn (e + 15) m_X11_noBeat (7, [.int a2], [.int 0], sM Ln (dd_u I 148 (upd (I 148) 0 0)) L c s) _
          refine dd_Rn.retK 3 (pc := 15) (ls := [.int a2]) (st := [.int 1]) (M := sM Ln (dd_u I 148 (upd (I 148) 0 0)) L c s) (o := (none, .int 1, sM Ln (dd_u I 148 (upd (I 148) 0 0)) L c s)) rfl rfl (dd_Af.ret rfl ?_) (by omega)
          show dd_Rn (e + 16) m_X11_tune (18, [.ref 148, .int a1, .int a2, .int a3], [.int 1, .ref 148], sM Ln (dd_u I 148 (upd (I 148) 0 0)) L c s) _
          refine dd_Rn.sub 4 (pc := 27) (ls := [.ref 148, .int a1, .int a2, .int a3]) (st := [.int 1, .int 1, .ref 148]) (M := sM Ln (dd_u I 148 (upd (I 148) 0 0)) L c s) (x := m_X11_throwsIf) (as := [.ref 148, .int 1, .int 1]) (rest := []) rfl rfl rfl rfl ?_
          show dd_Rn (e + 15) m_X11_throwsIf (0, [.ref 148, .int 1, .int 1], [], sM Ln (dd_u I 148 (upd (I 148) 0 0)) L c s) _
          refine dd_Rn.retK 6 (pc := 10) (ls := [.ref 148, .int 1, .int 1]) (st := [.int 1]) (M := sM Ln (dd_u (dd_u I 148 (upd (I 148) 0 0)) 148 (upd (upd (I 148) 0 0) 0 1)) L c s) (o := (none, .int 1, sM Ln (dd_u (dd_u I 148 (upd (I 148) 0 0)) 148 (upd (upd (I 148) 0 0) 0 1)) L c s)) rfl rfl (dd_Af.ret rfl ?_) (by omega)
          show dd_Rn (e + 16) m_X11_tune (30, [.ref 148, .int a1, .int a2, .int a3], [.int 1], sM Ln (dd_u (dd_u I 148 (upd (I 148) 0 0)) 148 (upd (upd (I 148) 0 0) 0 1)) L c s) _
          exact dd_Rn.retK 2 (pc := 57) (ls := [.ref 148, .int a1, .int a2, .int a3]) (st := [.int 0]) (M := sM Ln (dd_u (dd_u I 148 (upd (I 148) 0 0)) 148 (upd (upd (I 148) 0 0) 0 1)) L c s) (o := (none, .int 0, sM Ln (dd_u (dd_u I 148 (upd (I 148) 0 0)) 148 (upd (upd (I 148) 0 0) 0 1)) L c s)) rfl rfl h (by omega)
        · have h := h.2 hc
          refine dd_Rn.retK 2 (pc := 15) (ls := [.int a2, .int 0, .int 7]) (st := [.int 1]) (M := sM Ln (dd_u I 148 (upd (I 148) 0 0)) L c s) (o := (none, .int 1, sM Ln (dd_u I 148 (upd (I 148) 0 0)) L c s)) rfl rfl (dd_Af.ret rfl ?_) (by omega)
          show dd_Rn (e + 15) m_X11_noBeat (7, [.int a2], [.int 1], sM Ln (dd_u I 148 (upd (I 148) 0 0)) L c s) _
          refine dd_Rn.retK 2 (pc := 15) (ls := [.int a2]) (st := [.int 0]) (M := sM Ln (dd_u I 148 (upd (I 148) 0 0)) L c s) (o := (none, .int 0, sM Ln (dd_u I 148 (upd (I 148) 0 0)) L c s)) rfl rfl (dd_Af.ret rfl ?_) (by omega)
          show dd_Rn (e + 16) m_X11_tune (18, [.ref 148, .int a1, .int a2, .int a3], [.int 0, .ref 148], sM Ln (dd_u I 148 (upd (I 148) 0 0)) L c s) _
          refine dd_Rn.sub 3 (pc := 27) (ls := [.ref 148, .int a1, .int a2, .int a3]) (st := [.int 1, .int 0, .ref 148]) (M := sM Ln (dd_u I 148 (upd (I 148) 0 0)) L c s) (x := m_X11_throwsIf) (as := [.ref 148, .int 0, .int 1]) (rest := []) rfl rfl rfl rfl ?_
          show dd_Rn (e + 15) m_X11_throwsIf (0, [.ref 148, .int 0, .int 1], [], sM Ln (dd_u I 148 (upd (I 148) 0 0)) L c s) _
          refine dd_Rn.retK 3 (pc := 10) (ls := [.ref 148, .int 0, .int 1]) (st := [.int 0]) (M := sM Ln (dd_u I 148 (upd (I 148) 0 0)) L c s) (o := (none, .int 0, sM Ln (dd_u I 148 (upd (I 148) 0 0)) L c s)) rfl rfl (dd_Af.ret rfl ?_) (by omega)
          show dd_Rn (e + 16) m_X11_tune (30, [.ref 148, .int a1, .int a2, .int a3], [.int 0], sM Ln (dd_u I 148 (upd (I 148) 0 0)) L c s) _
          refine dd_Rn.sub 5 (pc := 38) (ls := [.ref 148, .int a1, .int a2, .int a3]) (st := [.int 7, .int 0, .int a3, .ref 148]) (M := sM Ln (dd_u I 148 (upd (I 148) 0 0)) L c s) (x := m_X11_in) (as := [.int a3, .int 0, .int 7]) (rest := [.ref 148]) rfl rfl rfl rfl ?_
          show dd_Rn (e + 15) m_X11_in (0, [.int a3, .int 0, .int 7], [], sM Ln (dd_u I 148 (upd (I 148) 0 0)) L c s) _
          refine dd_Rn.ite 2 (c := a3 < 0) (A := (14, [.int a3, .int 0, .int 7], [], sM Ln (dd_u I 148 (upd (I 148) 0 0)) L c s)) (B := (5, [.int a3, .int 0, .int 7], [], sM Ln (dd_u I 148 (upd (I 148) 0 0)) L c s)) rfl (fun hc => ?_) (fun hc => ?_) (by omega)
          · have h := h.1 hc
            refine dd_Rn.retK 1 (pc := 15) (ls := [.int a3, .int 0, .int 7]) (st := [.int 0]) (M := sM Ln (dd_u I 148 (upd (I 148) 0 0)) L c s) (o := (none, .int 0, sM Ln (dd_u I 148 (upd (I 148) 0 0)) L c s)) rfl rfl (dd_Af.ret rfl ?_) (by omega)
            show dd_Rn (e + 16) m_X11_tune (41, [.ref 148, .int a1, .int a2, .int a3], [.int 0, .ref 148], sM Ln (dd_u I 148 (upd (I 148) 0 0)) L c s) _
            refine dd_Rn.sub 4 (pc := 50) (ls := [.ref 148, .int a1, .int a2, .int a3]) (st := [.int 2, .int 1, .ref 148]) (M := sM Ln (dd_u I 148 (upd (I 148) 0 0)) L c s) (x := m_X11_throwsIf) (as := [.ref 148, .int 1, .int 2]) (rest := []) rfl rfl rfl rfl ?_
            show dd_Rn (e + 15) m_X11_throwsIf (0, [.ref 148, .int 1, .int 2], [], sM Ln (dd_u I 148 (upd (I 148) 0 0)) L c s) _
            refine dd_Rn.retK 6 (pc := 10) (ls := [.ref 148, .int 1, .int 2]) (st := [.int 1]) (M := sM Ln (dd_u (dd_u I 148 (upd (I 148) 0 0)) 148 (upd (upd (I 148) 0 0) 0 2)) L c s) (o := (none, .int 1, sM Ln (dd_u (dd_u I 148 (upd (I 148) 0 0)) 148 (upd (upd (I 148) 0 0) 0 2)) L c s)) rfl rfl (dd_Af.ret rfl ?_) (by omega)
            show dd_Rn (e + 16) m_X11_tune (53, [.ref 148, .int a1, .int a2, .int a3], [.int 1], sM Ln (dd_u (dd_u I 148 (upd (I 148) 0 0)) 148 (upd (upd (I 148) 0 0) 0 2)) L c s) _
            exact dd_Rn.retK 2 (pc := 57) (ls := [.ref 148, .int a1, .int a2, .int a3]) (st := [.int 0]) (M := sM Ln (dd_u (dd_u I 148 (upd (I 148) 0 0)) 148 (upd (upd (I 148) 0 0) 0 2)) L c s) (o := (none, .int 0, sM Ln (dd_u (dd_u I 148 (upd (I 148) 0 0)) 148 (upd (upd (I 148) 0 0) 0 2)) L c s)) rfl rfl h (by omega)
          · have h := h.2 hc
            refine dd_Rn.ite 2 (c := (7 : Int32) < a3) (A := (14, [.int a3, .int 0, .int 7], [], sM Ln (dd_u I 148 (upd (I 148) 0 0)) L c s)) (B := (10, [.int a3, .int 0, .int 7], [], sM Ln (dd_u I 148 (upd (I 148) 0 0)) L c s)) rfl (fun hc => ?_) (fun hc => ?_) (by omega)
            · have h := h.1 hc
              refine dd_Rn.retK 1 (pc := 15) (ls := [.int a3, .int 0, .int 7]) (st := [.int 0]) (M := sM Ln (dd_u I 148 (upd (I 148) 0 0)) L c s) (o := (none, .int 0, sM Ln (dd_u I 148 (upd (I 148) 0 0)) L c s)) rfl rfl (dd_Af.ret rfl ?_) (by omega)
              show dd_Rn (e + 16) m_X11_tune (41, [.ref 148, .int a1, .int a2, .int a3], [.int 0, .ref 148], sM Ln (dd_u I 148 (upd (I 148) 0 0)) L c s) _
              refine dd_Rn.sub 4 (pc := 50) (ls := [.ref 148, .int a1, .int a2, .int a3]) (st := [.int 2, .int 1, .ref 148]) (M := sM Ln (dd_u I 148 (upd (I 148) 0 0)) L c s) (x := m_X11_throwsIf) (as := [.ref 148, .int 1, .int 2]) (rest := []) rfl rfl rfl rfl ?_
              show dd_Rn (e + 15) m_X11_throwsIf (0, [.ref 148, .int 1, .int 2], [], sM Ln (dd_u I 148 (upd (I 148) 0 0)) L c s) _
              refine dd_Rn.retK 6 (pc := 10) (ls := [.ref 148, .int 1, .int 2]) (st := [.int 1]) (M := sM Ln (dd_u (dd_u I 148 (upd (I 148) 0 0)) 148 (upd (upd (I 148) 0 0) 0 2)) L c s) (o := (none, .int 1, sM Ln (dd_u (dd_u I 148 (upd (I 148) 0 0)) 148 (upd (upd (I 148) 0 0) 0 2)) L c s)) rfl rfl (dd_Af.ret rfl ?_) (by omega)
              show dd_Rn (e + 16) m_X11_tune (53, [.ref 148, .int a1, .int a2, .int a3], [.int 1], sM Ln (dd_u (dd_u I 148 (upd (I 148) 0 0)) 148 (upd (upd (I 148) 0 0) 0 2)) L c s) _
              exact dd_Rn.retK 2 (pc := 57) (ls := [.ref 148, .int a1, .int a2, .int a3]) (st := [.int 0]) (M := sM Ln (dd_u (dd_u I 148 (upd (I 148) 0 0)) 148 (upd (upd (I 148) 0 0) 0 2)) L c s) (o := (none, .int 0, sM Ln (dd_u (dd_u I 148 (upd (I 148) 0 0)) 148 (upd (upd (I 148) 0 0) 0 2)) L c s)) rfl rfl h (by omega)
            · have h := h.2 hc
              refine dd_Rn.retK 2 (pc := 15) (ls := [.int a3, .int 0, .int 7]) (st := [.int 1]) (M := sM Ln (dd_u I 148 (upd (I 148) 0 0)) L c s) (o := (none, .int 1, sM Ln (dd_u I 148 (upd (I 148) 0 0)) L c s)) rfl rfl (dd_Af.ret rfl ?_) (by omega)
              show dd_Rn (e + 16) m_X11_tune (41, [.ref 148, .int a1, .int a2, .int a3], [.int 1, .ref 148], sM Ln (dd_u I 148 (upd (I 148) 0 0)) L c s) _
              refine dd_Rn.sub 3 (pc := 50) (ls := [.ref 148, .int a1, .int a2, .int a3]) (st := [.int 2, .int 0, .ref 148]) (M := sM Ln (dd_u I 148 (upd (I 148) 0 0)) L c s) (x := m_X11_throwsIf) (as := [.ref 148, .int 0, .int 2]) (rest := []) rfl rfl rfl rfl ?_
              show dd_Rn (e + 15) m_X11_throwsIf (0, [.ref 148, .int 0, .int 2], [], sM Ln (dd_u I 148 (upd (I 148) 0 0)) L c s) _
              refine dd_Rn.retK 3 (pc := 10) (ls := [.ref 148, .int 0, .int 2]) (st := [.int 0]) (M := sM Ln (dd_u I 148 (upd (I 148) 0 0)) L c s) (o := (none, .int 0, sM Ln (dd_u I 148 (upd (I 148) 0 0)) L c s)) rfl rfl (dd_Af.ret rfl ?_) (by omega)
              show dd_Rn (e + 16) m_X11_tune (53, [.ref 148, .int a1, .int a2, .int a3], [.int 0], sM Ln (dd_u I 148 (upd (I 148) 0 0)) L c s) _
              refine dd_Rn.sub 4 (pc := 61) (ls := [.ref 148, .int a1, .int a2, .int a3]) (st := [.int a2, .int a1, .ref 148]) (M := sM Ln (dd_u I 148 (upd (I 148) 0 0)) L c s) (x := m_X11_noteAt) (as := [.int a1, .int a2]) (rest := [.ref 148]) rfl rfl rfl rfl ?_
              show dd_Rn (e + 15) m_X11_noteAt (0, [.int a1, .int a2], [], sM Ln (dd_u I 148 (upd (I 148) 0 0)) L c s) _
              refine dd_Rn.retK 7 (pc := 10) (ls := [.int a1, .int a2]) (st := [.int (((139 : Int32) + ((8 : Int32) * a1)) + a2)]) (M := sM Ln (dd_u I 148 (upd (I 148) 0 0)) L c s) (o := (none, .int (((139 : Int32) + ((8 : Int32) * a1)) + a2), sM Ln (dd_u I 148 (upd (I 148) 0 0)) L c s)) rfl rfl (dd_Af.ret rfl ?_) (by omega)
              show dd_Rn (e + 16) m_X11_tune (64, [.ref 148, .int a1, .int a2, .int a3], [.int (((139 : Int32) + ((8 : Int32) * a1)) + a2), .ref 148], sM Ln (dd_u I 148 (upd (I 148) 0 0)) L c s) _
              refine dd_Rn.cI 1 (pc := 65) (ls := [.ref 148, .int a1, .int a2, .int a3]) (st := [.int a3, .int (((139 : Int32) + ((8 : Int32) * a1)) + a2), .ref 148]) (x := m_X11_isNow) (as := [.ref 148, .int (((139 : Int32) + ((8 : Int32) * a1)) + a2), .int a3]) (rest := []) rfl rfl rfl rfl h ?_
              intro x1 I1 L1 h
              show dd_Rn (e + 16) m_X11_tune (68, [.ref 148, .int a1, .int a2, .int a3], [.int x1], sM Ln I1 L1 c s) _
              exact dd_Rn.retK 0 (pc := 68) (ls := [.ref 148, .int a1, .int a2, .int a3]) (st := [.int x1]) (M := sM Ln I1 L1 c s) (o := (none, .int x1, sM Ln I1 L1 c s)) rfl rfl h (by omega)

theorem w_X11_call_0 {Ln d c s : Nat} {I : Nat → Nat → Int32} {L : Nat → Nat → Int64} {Q : dd_O → Prop} {a1 : Int32} (hd : 28 ≤ d) (h : ((a1 < 0 → Q (none, .int 0, sM Ln (dd_u (dd_u I 148 (upd (I 148) 0 0)) 148 (upd (upd (I 148) 0 0) 0 1)) L c s)) ∧ (¬ (a1 < 0) → (((I 149 1) - 1 < a1 → Q (none, .int 0, sM Ln (dd_u (dd_u I 148 (upd (I 148) 0 0)) 148 (upd (upd (I 148) 0 0) 0 1)) L c s)) ∧ (¬ ((I 149 1) - 1 < a1) → ((0 ≤ ((187 : Int32) + ((5 : Int32) * a1)) + 3 ∧ tn (((187 : Int32) + ((5 : Int32) * a1)) + 3) < 2220) ∧ ((I 149 (tn (((187 : Int32) + ((5 : Int32) * a1)) + 3)) = 1 → Q (none, .int 0, sM Ln (dd_u (dd_u I 148 (upd (I 148) 0 0)) 148 (upd (upd (I 148) 0 0) 0 2)) L c s)) ∧ (¬ (I 149 (tn (((187 : Int32) + ((5 : Int32) * a1)) + 3)) = 1) → dd_Ev (d - 1) m_X11_remembers [.ref 148] (sM Ln (dd_u I 148 (upd (I 148) 0 0)) L c s) (dd_RV Ln c s (fun I1 L1 => ((0 ≤ ((187 : Int32) + ((5 : Int32) * a1)) + 0 ∧ tn (((187 : Int32) + ((5 : Int32) * a1)) + 0) < 2220) ∧ dd_Ev (d - 1) m_X11_comesIn [.ref 148, .int a1] (sM Ln I1 L1 c s) (dd_RV Ln c s (fun I2 L2 => Q (none, .int (I1 149 (tn (((187 : Int32) + ((5 : Int32) * a1)) + 0))), sM Ln I2 L2 c s)))))))))))))) : dd_Ev d m_X11_call [.ref 148, .int a1] (sM Ln I L c s) Q := by
  obtain ⟨e, rfl⟩ : ∃ e, d = e + 16 := ⟨d - 16, by omega⟩
  show dd_Rn (e + 16) m_X11_call (0, [.ref 148, .int a1, .null], [], sM Ln I L c s) Q
  refine dd_Rn.sub 6 (pc := 8) (ls := [.ref 148, .int a1, .null]) (st := [.int a1, .ref 148, .ref 148]) (M := sM Ln (dd_u I 148 (upd (I 148) 0 0)) L c s) (x := m_X11_noBoy) (as := [.ref 148, .int a1]) (rest := [.ref 148]) rfl rfl rfl rfl ?_
  show dd_Rn (e + 15) m_X11_noBoy (0, [.ref 148, .int a1], [], sM Ln (dd_u I 148 (upd (I 148) 0 0)) L c s) _
  refine dd_Rn.sub 3 (pc := 3) (ls := [.ref 148, .int a1]) (st := [.ref 148, .int 0, .int a1]) (M := sM Ln (dd_u I 148 (upd (I 148) 0 0)) L c s) (x := m_X11_boys) (as := [.ref 148]) (rest := [.int 0, .int a1]) rfl rfl rfl rfl ?_
  show dd_Rn (e + 14) m_X11_boys (0, [.ref 148], [], sM Ln (dd_u I 148 (upd (I 148) 0 0)) L c s) _
  refine dd_Rn.retK 4 (pc := 6) (ls := [.ref 148]) (st := [.int (I 149 1)]) (M := sM Ln (dd_u I 148 (upd (I 148) 0 0)) L c s) (o := (none, .int (I 149 1), sM Ln (dd_u I 148 (upd (I 148) 0 0)) L c s)) rfl rfl (dd_Af.ret rfl ?_) (by omega)
  show dd_Rn (e + 15) m_X11_noBoy (6, [.ref 148, .int a1], [.int (I 149 1), .int 0, .int a1], sM Ln (dd_u I 148 (upd (I 148) 0 0)) L c s) _
  refine dd_Rn.sub 2 (pc := 8) (ls := [.ref 148, .int a1]) (st := [.int ((I 149 1) - 1), .int 0, .int a1]) (M := sM Ln (dd_u I 148 (upd (I 148) 0 0)) L c s) (x := m_X11_in) (as := [.int a1, .int 0, .int ((I 149 1) - 1)]) (rest := []) rfl rfl rfl rfl ?_
  show dd_Rn (e + 14) m_X11_in (0, [.int a1, .int 0, .int ((I 149 1) - 1)], [], sM Ln (dd_u I 148 (upd (I 148) 0 0)) L c s) _
  refine dd_Rn.ite 2 (c := a1 < 0) (A := (14, [.int a1, .int 0, .int ((I 149 1) - 1)], [], sM Ln (dd_u I 148 (upd (I 148) 0 0)) L c s)) (B := (5, [.int a1, .int 0, .int ((I 149 1) - 1)], [], sM Ln (dd_u I 148 (upd (I 148) 0 0)) L c s)) rfl (fun hc => ?_) (fun hc => ?_) (by omega)
  · have h := h.1 hc
    refine dd_Rn.retK 1 (pc := 15) (ls := [.int a1, .int 0, .int ((I 149 1) - 1)]) (st := [.int 0]) (M := sM Ln (dd_u I 148 (upd (I 148) 0 0)) L c s) (o := (none, .int 0, sM Ln (dd_u I 148 (upd (I 148) 0 0)) L c s)) rfl rfl (dd_Af.ret rfl ?_) (by omega)
    show dd_Rn (e + 15) m_X11_noBoy (11, [.ref 148, .int a1], [.int 0], sM Ln (dd_u I 148 (upd (I 148) 0 0)) L c s) _
    refine dd_Rn.retK 3 (pc := 19) (ls := [.ref 148, .int a1]) (st := [.int 1]) (M := sM Ln (dd_u I 148 (upd (I 148) 0 0)) L c s) (o := (none, .int 1, sM Ln (dd_u I 148 (upd (I 148) 0 0)) L c s)) rfl rfl (dd_Af.ret rfl ?_) (by omega)
    show dd_Rn (e + 16) m_X11_call (11, [.ref 148, .int a1, .null], [.int 1, .ref 148], sM Ln (dd_u I 148 (upd (I 148) 0 0)) L c s) _
    refine dd_Rn.sub 1 (pc := 12) (ls := [.ref 148, .int a1, .null]) (st := [.int 1, .int 1, .ref 148]) (M := sM Ln (dd_u I 148 (upd (I 148) 0 0)) L c s) (x := m_X11_throwsIf) (as := [.ref 148, .int 1, .int 1]) (rest := []) rfl rfl rfl rfl ?_
    show dd_Rn (e + 15) m_X11_throwsIf (0, [.ref 148, .int 1, .int 1], [], sM Ln (dd_u I 148 (upd (I 148) 0 0)) L c s) _
    refine dd_Rn.retK 6 (pc := 10) (ls := [.ref 148, .int 1, .int 1]) (st := [.int 1]) (M := sM Ln (dd_u (dd_u I 148 (upd (I 148) 0 0)) 148 (upd (upd (I 148) 0 0) 0 1)) L c s) (o := (none, .int 1, sM Ln (dd_u (dd_u I 148 (upd (I 148) 0 0)) 148 (upd (upd (I 148) 0 0) 0 1)) L c s)) rfl rfl (dd_Af.ret rfl ?_) (by omega)
    show dd_Rn (e + 16) m_X11_call (15, [.ref 148, .int a1, .null], [.int 1], sM Ln (dd_u (dd_u I 148 (upd (I 148) 0 0)) 148 (upd (upd (I 148) 0 0) 0 1)) L c s) _
    exact dd_Rn.retK 2 (pc := 32) (ls := [.ref 148, .int a1, .null]) (st := [.int 0]) (M := sM Ln (dd_u (dd_u I 148 (upd (I 148) 0 0)) 148 (upd (upd (I 148) 0 0) 0 1)) L c s) (o := (none, .int 0, sM Ln (dd_u (dd_u I 148 (upd (I 148) 0 0)) 148 (upd (upd (I 148) 0 0) 0 1)) L c s)) rfl rfl h (by omega)
  · have h := h.2 hc
    refine dd_Rn.ite 2 (c := (I 149 1) - 1 < a1) (A := (14, [.int a1, .int 0, .int ((I 149 1) - 1)], [], sM Ln (dd_u I 148 (upd (I 148) 0 0)) L c s)) (B := (10, [.int a1, .int 0, .int ((I 149 1) - 1)], [], sM Ln (dd_u I 148 (upd (I 148) 0 0)) L c s)) rfl (fun hc => ?_) (fun hc => ?_) (by omega)
    · have h := h.1 hc
      refine dd_Rn.retK 1 (pc := 15) (ls := [.int a1, .int 0, .int ((I 149 1) - 1)]) (st := [.int 0]) (M := sM Ln (dd_u I 148 (upd (I 148) 0 0)) L c s) (o := (none, .int 0, sM Ln (dd_u I 148 (upd (I 148) 0 0)) L c s)) rfl rfl (dd_Af.ret rfl ?_) (by omega)
      show dd_Rn (e + 15) m_X11_noBoy (11, [.ref 148, .int a1], [.int 0], sM Ln (dd_u I 148 (upd (I 148) 0 0)) L c s) _
      refine dd_Rn.retK 3 (pc := 19) (ls := [.ref 148, .int a1]) (st := [.int 1]) (M := sM Ln (dd_u I 148 (upd (I 148) 0 0)) L c s) (o := (none, .int 1, sM Ln (dd_u I 148 (upd (I 148) 0 0)) L c s)) rfl rfl (dd_Af.ret rfl ?_) (by omega)
      show dd_Rn (e + 16) m_X11_call (11, [.ref 148, .int a1, .null], [.int 1, .ref 148], sM Ln (dd_u I 148 (upd (I 148) 0 0)) L c s) _
      refine dd_Rn.sub 1 (pc := 12) (ls := [.ref 148, .int a1, .null]) (st := [.int 1, .int 1, .ref 148]) (M := sM Ln (dd_u I 148 (upd (I 148) 0 0)) L c s) (x := m_X11_throwsIf) (as := [.ref 148, .int 1, .int 1]) (rest := []) rfl rfl rfl rfl ?_
      show dd_Rn (e + 15) m_X11_throwsIf (0, [.ref 148, .int 1, .int 1], [], sM Ln (dd_u I 148 (upd (I 148) 0 0)) L c s) _
      refine dd_Rn.retK 6 (pc := 10) (ls := [.ref 148, .int 1, .int 1]) (st := [.int 1]) (M := sM Ln (dd_u (dd_u I 148 (upd (I 148) 0 0)) 148 (upd (upd (I 148) 0 0) 0 1)) L c s) (o := (none, .int 1, sM Ln (dd_u (dd_u I 148 (upd (I 148) 0 0)) 148 (upd (upd (I 148) 0 0) 0 1)) L c s)) rfl rfl (dd_Af.ret rfl ?_) (by omega)
      show dd_Rn (e + 16) m_X11_call (15, [.ref 148, .int a1, .null], [.int 1], sM Ln (dd_u (dd_u I 148 (upd (I 148) 0 0)) 148 (upd (upd (I 148) 0 0) 0 1)) L c s) _
      exact dd_Rn.retK 2 (pc := 32) (ls := [.ref 148, .int a1, .null]) (st := [.int 0]) (M := sM Ln (dd_u (dd_u I 148 (upd (I 148) 0 0)) 148 (upd (upd (I 148) 0 0) 0 1)) L c s) (o := (none, .int 0, sM Ln (dd_u (dd_u I 148 (upd (I 148) 0 0)) 148 (upd (upd (I 148) 0 0) 0 1)) L c s)) rfl rfl h (by omega)
    · have h := h.2 hc
      refine dd_Rn.retK 2 (pc := 15) (ls := [.int a1, .int 0, .int ((I 149 1) - 1)]) (st := [.int 1]) (M := sM Ln (dd_u I 148 (upd (I 148) 0 0)) L c s) (o := (none, .int 1, sM Ln (dd_u I 148 (upd (I 148) 0 0)) L c s)) rfl rfl (dd_Af.ret rfl ?_) (by omega)
      show dd_Rn (e + 15) m_X11_noBoy (11, [.ref 148, .int a1], [.int 1], sM Ln (dd_u I 148 (upd (I 148) 0 0)) L c s) _
      refine dd_Rn.retK 2 (pc := 19) (ls := [.ref 148, .int a1]) (st := [.int 0]) (M := sM Ln (dd_u I 148 (upd (I 148) 0 0)) L c s) (o := (none, .int 0, sM Ln (dd_u I 148 (upd (I 148) 0 0)) L c s)) rfl rfl (dd_Af.ret rfl ?_) (by omega)
      show dd_Rn (e + 16) m_X11_call (11, [.ref 148, .int a1, .null], [.int 0, .ref 148], sM Ln (dd_u I 148 (upd (I 148) 0 0)) L c s) _
      refine dd_Rn.sub 1 (pc := 12) (ls := [.ref 148, .int a1, .null]) (st := [.int 1, .int 0, .ref 148]) (M := sM Ln (dd_u I 148 (upd (I 148) 0 0)) L c s) (x := m_X11_throwsIf) (as := [.ref 148, .int 0, .int 1]) (rest := []) rfl rfl rfl rfl ?_
      show dd_Rn (e + 15) m_X11_throwsIf (0, [.ref 148, .int 0, .int 1], [], sM Ln (dd_u I 148 (upd (I 148) 0 0)) L c s) _
      refine dd_Rn.retK 3 (pc := 10) (ls := [.ref 148, .int 0, .int 1]) (st := [.int 0]) (M := sM Ln (dd_u I 148 (upd (I 148) 0 0)) L c s) (o := (none, .int 0, sM Ln (dd_u I 148 (upd (I 148) 0 0)) L c s)) rfl rfl (dd_Af.ret rfl ?_) (by omega)
      show dd_Rn (e + 16) m_X11_call (15, [.ref 148, .int a1, .null], [.int 0], sM Ln (dd_u I 148 (upd (I 148) 0 0)) L c s) _
      refine dd_Rn.sub 4 (pc := 21) (ls := [.ref 148, .int a1, .null]) (st := [.int a1, .ref 148, .ref 148]) (M := sM Ln (dd_u I 148 (upd (I 148) 0 0)) L c s) (x := m_X11_isIn) (as := [.ref 148, .int a1]) (rest := [.ref 148]) rfl rfl rfl rfl ?_
      show dd_Rn (e + 15) m_X11_isIn (0, [.ref 148, .int a1], [], sM Ln (dd_u I 148 (upd (I 148) 0 0)) L c s) _
      refine dd_Rn.sub 3 (pc := 3) (ls := [.ref 148, .int a1]) (st := [.int 3, .int a1, .ref 148]) (M := sM Ln (dd_u I 148 (upd (I 148) 0 0)) L c s) (x := m_X11_of) (as := [.ref 148, .int a1, .int 3]) (rest := []) rfl rfl rfl rfl ?_
      show dd_Rn (e + 14) m_X11_of (0, [.ref 148, .int a1, .int 3], [], sM Ln (dd_u I 148 (upd (I 148) 0 0)) L c s) _
      refine dd_Rn.sub 4 (pc := 6) (ls := [.ref 148, .int a1, .int 3]) (st := [.int 3, .int a1, .ref 149]) (M := sM Ln (dd_u I 148 (upd (I 148) 0 0)) L c s) (x := m_X11_at) (as := [.int a1, .int 3]) (rest := [.ref 149]) rfl rfl rfl rfl ?_
      show dd_Rn (e + 13) m_X11_at (0, [.int a1, .int 3], [], sM Ln (dd_u I 148 (upd (I 148) 0 0)) L c s) _
      refine dd_Rn.retK 7 (pc := 9) (ls := [.int a1, .int 3]) (st := [.int (((187 : Int32) + ((5 : Int32) * a1)) + 3)]) (M := sM Ln (dd_u I 148 (upd (I 148) 0 0)) L c s) (o := (none, .int (((187 : Int32) + ((5 : Int32) * a1)) + 3), sM Ln (dd_u I 148 (upd (I 148) 0 0)) L c s)) rfl rfl (dd_Af.ret rfl ?_) (by omega)
      show dd_Rn (e + 14) m_X11_of (9, [.ref 148, .int a1, .int 3], [.int (((187 : Int32) + ((5 : Int32) * a1)) + 3), .ref 149], sM Ln (dd_u I 148 (upd (I 148) 0 0)) L c s) _
      obtain ⟨hc, h⟩ := h
      refine dd_Rn.ci (fun j0 => (9, [.ref 148, .int a1, .int 3], [.int j0, .ref 149], sM Ln (dd_u I 148 (upd (I 148) 0 0)) L c s)) (fun j0 => (10, [.ref 148, .int a1, .int 3], [.int (I 149 (tn j0))], sM Ln (dd_u I 148 (upd (I 148) 0 0)) L c s)) (fun j0 => 0 ≤ j0 ∧ tn j0 < 2220) (((187 : Int32) + ((5 : Int32) * a1)) + 3) (fun j0 hc h => dd_Rn.chk 0 (c := 0 ≤ j0 ∧ tn j0 < 2220) (A := (10, [.ref 148, .int a1, .int 3], [.int (I 149 (tn j0))], sM Ln (dd_u I 148 (upd (I 148) 0 0)) L c s)) rfl hc h (by omega)) hc ?_
      refine dd_Rn.se (cf := (10, [.ref 148, .int a1, .int 3], [.int (I 149 (tn (((187 : Int32) + ((5 : Int32) * a1)) + 3)))], sM Ln (dd_u I 148 (upd (I 148) 0 0)) L c s)) ?_
      refine dd_Rn.retK 0 (pc := 10) (ls := [.ref 148, .int a1, .int 3]) (st := [.int (I 149 (tn (((187 : Int32) + ((5 : Int32) * a1)) + 3)))]) (M := sM Ln (dd_u I 148 (upd (I 148) 0 0)) L c s) (o := (none, .int (I 149 (tn (((187 : Int32) + ((5 : Int32) * a1)) + 3))), sM Ln (dd_u I 148 (upd (I 148) 0 0)) L c s)) rfl rfl (dd_Af.ret rfl ?_) (by omega)
      show dd_Rn (e + 15) m_X11_isIn (6, [.ref 148, .int a1], [.int (I 149 (tn (((187 : Int32) + ((5 : Int32) * a1)) + 3)))], sM Ln (dd_u I 148 (upd (I 148) 0 0)) L c s) _
      refine dd_Rn.ite 1 (c := I 149 (tn (((187 : Int32) + ((5 : Int32) * a1)) + 3)) = 1) (A := (10, [.ref 148, .int a1], [], sM Ln (dd_u I 148 (upd (I 148) 0 0)) L c s)) (B := (14, [.ref 148, .int a1], [], sM Ln (dd_u I 148 (upd (I 148) 0 0)) L c s)) rfl (fun hc => ?_) (fun hc => ?_) (by omega)
      · have h := h.1 hc
        refine dd_Rn.retK 2 (pc := 15) (ls := [.ref 148, .int a1]) (st := [.int 1]) (M := sM Ln (dd_u I 148 (upd (I 148) 0 0)) L c s) (o := (none, .int 1, sM Ln (dd_u I 148 (upd (I 148) 0 0)) L c s)) rfl rfl (dd_Af.ret rfl ?_) (by omega)
        show dd_Rn (e + 16) m_X11_call (24, [.ref 148, .int a1, .null], [.int 1, .ref 148], sM Ln (dd_u I 148 (upd (I 148) 0 0)) L c s) _
        refine dd_Rn.sub 1 (pc := 25) (ls := [.ref 148, .int a1, .null]) (st := [.int 2, .int 1, .ref 148]) (M := sM Ln (dd_u I 148 (upd (I 148) 0 0)) L c s) (x := m_X11_throwsIf) (as := [.ref 148, .int 1, .int 2]) (rest := []) rfl rfl rfl rfl ?_
        show dd_Rn (e + 15) m_X11_throwsIf (0, [.ref 148, .int 1, .int 2], [], sM Ln (dd_u I 148 (upd (I 148) 0 0)) L c s) _
        refine dd_Rn.retK 6 (pc := 10) (ls := [.ref 148, .int 1, .int 2]) (st := [.int 1]) (M := sM Ln (dd_u (dd_u I 148 (upd (I 148) 0 0)) 148 (upd (upd (I 148) 0 0) 0 2)) L c s) (o := (none, .int 1, sM Ln (dd_u (dd_u I 148 (upd (I 148) 0 0)) 148 (upd (upd (I 148) 0 0) 0 2)) L c s)) rfl rfl (dd_Af.ret rfl ?_) (by omega)
        show dd_Rn (e + 16) m_X11_call (28, [.ref 148, .int a1, .null], [.int 1], sM Ln (dd_u (dd_u I 148 (upd (I 148) 0 0)) 148 (upd (upd (I 148) 0 0) 0 2)) L c s) _
        exact dd_Rn.retK 2 (pc := 32) (ls := [.ref 148, .int a1, .null]) (st := [.int 0]) (M := sM Ln (dd_u (dd_u I 148 (upd (I 148) 0 0)) 148 (upd (upd (I 148) 0 0) 0 2)) L c s) (o := (none, .int 0, sM Ln (dd_u (dd_u I 148 (upd (I 148) 0 0)) 148 (upd (upd (I 148) 0 0) 0 2)) L c s)) rfl rfl h (by omega)
      · have h := h.2 hc
        refine dd_Rn.retK 1 (pc := 15) (ls := [.ref 148, .int a1]) (st := [.int 0]) (M := sM Ln (dd_u I 148 (upd (I 148) 0 0)) L c s) (o := (none, .int 0, sM Ln (dd_u I 148 (upd (I 148) 0 0)) L c s)) rfl rfl (dd_Af.ret rfl ?_) (by omega)
        show dd_Rn (e + 16) m_X11_call (24, [.ref 148, .int a1, .null], [.int 0, .ref 148], sM Ln (dd_u I 148 (upd (I 148) 0 0)) L c s) _
        refine dd_Rn.sub 1 (pc := 25) (ls := [.ref 148, .int a1, .null]) (st := [.int 2, .int 0, .ref 148]) (M := sM Ln (dd_u I 148 (upd (I 148) 0 0)) L c s) (x := m_X11_throwsIf) (as := [.ref 148, .int 0, .int 2]) (rest := []) rfl rfl rfl rfl ?_
        show dd_Rn (e + 15) m_X11_throwsIf (0, [.ref 148, .int 0, .int 2], [], sM Ln (dd_u I 148 (upd (I 148) 0 0)) L c s) _
        refine dd_Rn.retK 3 (pc := 10) (ls := [.ref 148, .int 0, .int 2]) (st := [.int 0]) (M := sM Ln (dd_u I 148 (upd (I 148) 0 0)) L c s) (o := (none, .int 0, sM Ln (dd_u I 148 (upd (I 148) 0 0)) L c s)) rfl rfl (dd_Af.ret rfl ?_) (by omega)
        show dd_Rn (e + 16) m_X11_call (28, [.ref 148, .int a1, .null], [.int 0], sM Ln (dd_u I 148 (upd (I 148) 0 0)) L c s) _
        refine dd_Rn.cV 2 (pc := 34) (ls := [.ref 148, .int a1, .null]) (st := [.ref 148]) (x := m_X11_remembers) (as := [.ref 148]) (rest := []) rfl rfl rfl rfl h ?_
        intro I1 L1 h
        show dd_Rn (e + 16) m_X11_call (37, [.ref 148, .int a1, .null], [], sM Ln I1 L1 c s) _
        refine dd_Rn.sub 3 (pc := 40) (ls := [.ref 148, .int a1, .null]) (st := [.int 0, .int a1, .ref 148]) (M := sM Ln I1 L1 c s) (x := m_X11_of) (as := [.ref 148, .int a1, .int 0]) (rest := []) rfl rfl rfl rfl ?_
        show dd_Rn (e + 15) m_X11_of (0, [.ref 148, .int a1, .int 0], [], sM Ln I1 L1 c s) _
        refine dd_Rn.sub 4 (pc := 6) (ls := [.ref 148, .int a1, .int 0]) (st := [.int 0, .int a1, .ref 149]) (M := sM Ln I1 L1 c s) (x := m_X11_at) (as := [.int a1, .int 0]) (rest := [.ref 149]) rfl rfl rfl rfl ?_
        show dd_Rn (e + 14) m_X11_at (0, [.int a1, .int 0], [], sM Ln I1 L1 c s) _
        refine dd_Rn.retK 7 (pc := 9) (ls := [.int a1, .int 0]) (st := [.int (((187 : Int32) + ((5 : Int32) * a1)) + 0)]) (M := sM Ln I1 L1 c s) (o := (none, .int (((187 : Int32) + ((5 : Int32) * a1)) + 0), sM Ln I1 L1 c s)) rfl rfl (dd_Af.ret rfl ?_) (by omega)
        show dd_Rn (e + 15) m_X11_of (9, [.ref 148, .int a1, .int 0], [.int (((187 : Int32) + ((5 : Int32) * a1)) + 0), .ref 149], sM Ln I1 L1 c s) _
        obtain ⟨hc, h⟩ := h
        refine dd_Rn.ci (fun j0 => (9, [.ref 148, .int a1, .int 0], [.int j0, .ref 149], sM Ln I1 L1 c s)) (fun j0 => (10, [.ref 148, .int a1, .int 0], [.int (I1 149 (tn j0))], sM Ln I1 L1 c s)) (fun j0 => 0 ≤ j0 ∧ tn j0 < 2220) (((187 : Int32) + ((5 : Int32) * a1)) + 0) (fun j0 hc h => dd_Rn.chk 0 (c := 0 ≤ j0 ∧ tn j0 < 2220) (A := (10, [.ref 148, .int a1, .int 0], [.int (I1 149 (tn j0))], sM Ln I1 L1 c s)) rfl hc h (by omega)) hc ?_
        refine dd_Rn.se (cf := (10, [.ref 148, .int a1, .int 0], [.int (I1 149 (tn (((187 : Int32) + ((5 : Int32) * a1)) + 0)))], sM Ln I1 L1 c s)) ?_
        refine dd_Rn.retK 0 (pc := 10) (ls := [.ref 148, .int a1, .int 0]) (st := [.int (I1 149 (tn (((187 : Int32) + ((5 : Int32) * a1)) + 0)))]) (M := sM Ln I1 L1 c s) (o := (none, .int (I1 149 (tn (((187 : Int32) + ((5 : Int32) * a1)) + 0))), sM Ln I1 L1 c s)) rfl rfl (dd_Af.ret rfl ?_) (by omega)
        show dd_Rn (e + 16) m_X11_call (43, [.ref 148, .int a1, .null], [.int (I1 149 (tn (((187 : Int32) + ((5 : Int32) * a1)) + 0)))], sM Ln I1 L1 c s) _
        refine dd_Rn.cV 3 (pc := 46) (ls := [.ref 148, .int a1, .int (I1 149 (tn (((187 : Int32) + ((5 : Int32) * a1)) + 0)))]) (st := [.int a1, .ref 148]) (x := m_X11_comesIn) (as := [.ref 148, .int a1]) (rest := []) rfl rfl rfl rfl h ?_
        intro I2 L2 h
        show dd_Rn (e + 16) m_X11_call (49, [.ref 148, .int a1, .int (I1 149 (tn (((187 : Int32) + ((5 : Int32) * a1)) + 0)))], [], sM Ln I2 L2 c s) _
        exact dd_Rn.retK 1 (pc := 50) (ls := [.ref 148, .int a1, .int (I1 149 (tn (((187 : Int32) + ((5 : Int32) * a1)) + 0)))]) (st := [.int (I1 149 (tn (((187 : Int32) + ((5 : Int32) * a1)) + 0)))]) (M := sM Ln I2 L2 c s) (o := (none, .int (I1 149 (tn (((187 : Int32) + ((5 : Int32) * a1)) + 0))), sM Ln I2 L2 c s)) rfl rfl h (by omega)

theorem w_X11_send_0 {Ln d c s : Nat} {I : Nat → Nat → Int32} {L : Nat → Nat → Int64} {Q : dd_O → Prop} {a1 a2 : Int32} (hd : 28 ≤ d) (h : ((a1 < 0 → Q (none, .int 0, sM Ln (dd_u (dd_u I 148 (upd (I 148) 0 0)) 148 (upd (upd (I 148) 0 0) 0 1)) L c s)) ∧ (¬ (a1 < 0) → (((I 149 1) - 1 < a1 → Q (none, .int 0, sM Ln (dd_u (dd_u I 148 (upd (I 148) 0 0)) 148 (upd (upd (I 148) 0 0) 0 1)) L c s)) ∧ (¬ ((I 149 1) - 1 < a1) → ((a2 < 0 → Q (none, .int 0, sM Ln (dd_u (dd_u I 148 (upd (I 148) 0 0)) 148 (upd (upd (I 148) 0 0) 0 1)) L c s)) ∧ (¬ (a2 < 0) → (((63 : Int32) < a2 → Q (none, .int 0, sM Ln (dd_u (dd_u I 148 (upd (I 148) 0 0)) 148 (upd (upd (I 148) 0 0) 0 1)) L c s)) ∧ (¬ ((63 : Int32) < a2) → ((0 ≤ (11 : Int32) + a2 ∧ tn ((11 : Int32) + a2) < 2220) ∧ ((I 149 (tn ((11 : Int32) + a2)) = 1 → Q (none, .int 0, sM Ln (dd_u (dd_u I 148 (upd (I 148) 0 0)) 148 (upd (upd (I 148) 0 0) 0 2)) L c s)) ∧ (¬ (I 149 (tn ((11 : Int32) + a2)) = 1) → ((a2 = I 149 4 → Q (none, .int 0, sM Ln (dd_u (dd_u I 148 (upd (I 148) 0 0)) 148 (upd (upd (I 148) 0 0) 0 2)) L c s)) ∧ (¬ (a2 = I 149 4) → dd_Ev (d - 1) m_X11_remembers [.ref 148] (sM Ln (dd_u I 148 (upd (I 148) 0 0)) L c s) (dd_RV Ln c s (fun I1 L1 => ((0 ≤ ((187 : Int32) + ((5 : Int32) * a1)) + 0 ∧ tn (((187 : Int32) + ((5 : Int32) * a1)) + 0) < 2220) ∧ ((0 ≤ ((187 : Int32) + ((5 : Int32) * a1)) + 0 ∧ tn (((187 : Int32) + ((5 : Int32) * a1)) + 0) < 2220) ∧ ((0 ≤ ((187 : Int32) + ((5 : Int32) * a1)) + 3 ∧ tn (((187 : Int32) + ((5 : Int32) * a1)) + 3) < 2220) ∧ Q (none, .int (I1 149 (tn (((187 : Int32) + ((5 : Int32) * a1)) + 0))), sM Ln (dd_u (dd_u I1 149 (upd (I1 149) (tn (((187 : Int32) + ((5 : Int32) * a1)) + 0)) a2)) 149 (upd (upd (I1 149) (tn (((187 : Int32) + ((5 : Int32) * a1)) + 0)) a2) (tn (((187 : Int32) + ((5 : Int32) * a1)) + 3)) 0)) L1 c s)))))))))))))))))))) : dd_Ev d m_X11_send [.ref 148, .int a1, .int a2] (sM Ln I L c s) Q := by
  obtain ⟨e, rfl⟩ : ∃ e, d = e + 16 := ⟨d - 16, by omega⟩
  show dd_Rn (e + 16) m_X11_send (0, [.ref 148, .int a1, .int a2, .null], [], sM Ln I L c s) Q
  refine dd_Rn.sub 6 (pc := 8) (ls := [.ref 148, .int a1, .int a2, .null]) (st := [.int a1, .ref 148, .ref 148]) (M := sM Ln (dd_u I 148 (upd (I 148) 0 0)) L c s) (x := m_X11_noBoy) (as := [.ref 148, .int a1]) (rest := [.ref 148]) rfl rfl rfl rfl ?_
  show dd_Rn (e + 15) m_X11_noBoy (0, [.ref 148, .int a1], [], sM Ln (dd_u I 148 (upd (I 148) 0 0)) L c s) _
  refine dd_Rn.sub 3 (pc := 3) (ls := [.ref 148, .int a1]) (st := [.ref 148, .int 0, .int a1]) (M := sM Ln (dd_u I 148 (upd (I 148) 0 0)) L c s) (x := m_X11_boys) (as := [.ref 148]) (rest := [.int 0, .int a1]) rfl rfl rfl rfl ?_
  show dd_Rn (e + 14) m_X11_boys (0, [.ref 148], [], sM Ln (dd_u I 148 (upd (I 148) 0 0)) L c s) _
  refine dd_Rn.retK 4 (pc := 6) (ls := [.ref 148]) (st := [.int (I 149 1)]) (M := sM Ln (dd_u I 148 (upd (I 148) 0 0)) L c s) (o := (none, .int (I 149 1), sM Ln (dd_u I 148 (upd (I 148) 0 0)) L c s)) rfl rfl (dd_Af.ret rfl ?_) (by omega)
  show dd_Rn (e + 15) m_X11_noBoy (6, [.ref 148, .int a1], [.int (I 149 1), .int 0, .int a1], sM Ln (dd_u I 148 (upd (I 148) 0 0)) L c s) _
  refine dd_Rn.sub 2 (pc := 8) (ls := [.ref 148, .int a1]) (st := [.int ((I 149 1) - 1), .int 0, .int a1]) (M := sM Ln (dd_u I 148 (upd (I 148) 0 0)) L c s) (x := m_X11_in) (as := [.int a1, .int 0, .int ((I 149 1) - 1)]) (rest := []) rfl rfl rfl rfl ?_
  show dd_Rn (e + 14) m_X11_in (0, [.int a1, .int 0, .int ((I 149 1) - 1)], [], sM Ln (dd_u I 148 (upd (I 148) 0 0)) L c s) _
  refine dd_Rn.ite 2 (c := a1 < 0) (A := (14, [.int a1, .int 0, .int ((I 149 1) - 1)], [], sM Ln (dd_u I 148 (upd (I 148) 0 0)) L c s)) (B := (5, [.int a1, .int 0, .int ((I 149 1) - 1)], [], sM Ln (dd_u I 148 (upd (I 148) 0 0)) L c s)) rfl (fun hc => ?_) (fun hc => ?_) (by omega)
  · have h := h.1 hc
    refine dd_Rn.retK 1 (pc := 15) (ls := [.int a1, .int 0, .int ((I 149 1) - 1)]) (st := [.int 0]) (M := sM Ln (dd_u I 148 (upd (I 148) 0 0)) L c s) (o := (none, .int 0, sM Ln (dd_u I 148 (upd (I 148) 0 0)) L c s)) rfl rfl (dd_Af.ret rfl ?_) (by omega)
    show dd_Rn (e + 15) m_X11_noBoy (11, [.ref 148, .int a1], [.int 0], sM Ln (dd_u I 148 (upd (I 148) 0 0)) L c s) _
    refine dd_Rn.retK 3 (pc := 19) (ls := [.ref 148, .int a1]) (st := [.int 1]) (M := sM Ln (dd_u I 148 (upd (I 148) 0 0)) L c s) (o := (none, .int 1, sM Ln (dd_u I 148 (upd (I 148) 0 0)) L c s)) rfl rfl (dd_Af.ret rfl ?_) (by omega)
    show dd_Rn (e + 16) m_X11_send (11, [.ref 148, .int a1, .int a2, .null], [.int 1, .ref 148], sM Ln (dd_u I 148 (upd (I 148) 0 0)) L c s) _
    refine dd_Rn.sub 4 (pc := 27) (ls := [.ref 148, .int a1, .int a2, .null]) (st := [.int 1, .int 1, .ref 148]) (M := sM Ln (dd_u I 148 (upd (I 148) 0 0)) L c s) (x := m_X11_throwsIf) (as := [.ref 148, .int 1, .int 1]) (rest := []) rfl rfl rfl rfl ?_
    show dd_Rn (e + 15) m_X11_throwsIf (0, [.ref 148, .int 1, .int 1], [], sM Ln (dd_u I 148 (upd (I 148) 0 0)) L c s) _
    refine dd_Rn.retK 6 (pc := 10) (ls := [.ref 148, .int 1, .int 1]) (st := [.int 1]) (M := sM Ln (dd_u (dd_u I 148 (upd (I 148) 0 0)) 148 (upd (upd (I 148) 0 0) 0 1)) L c s) (o := (none, .int 1, sM Ln (dd_u (dd_u I 148 (upd (I 148) 0 0)) 148 (upd (upd (I 148) 0 0) 0 1)) L c s)) rfl rfl (dd_Af.ret rfl ?_) (by omega)
    show dd_Rn (e + 16) m_X11_send (30, [.ref 148, .int a1, .int a2, .null], [.int 1], sM Ln (dd_u (dd_u I 148 (upd (I 148) 0 0)) 148 (upd (upd (I 148) 0 0) 0 1)) L c s) _
    exact dd_Rn.retK 2 (pc := 65) (ls := [.ref 148, .int a1, .int a2, .null]) (st := [.int 0]) (M := sM Ln (dd_u (dd_u I 148 (upd (I 148) 0 0)) 148 (upd (upd (I 148) 0 0) 0 1)) L c s) (o := (none, .int 0, sM Ln (dd_u (dd_u I 148 (upd (I 148) 0 0)) 148 (upd (upd (I 148) 0 0) 0 1)) L c s)) rfl rfl h (by omega)
  · have h := h.2 hc
    refine dd_Rn.ite 2 (c := (I 149 1) - 1 < a1) (A := (14, [.int a1, .int 0, .int ((I 149 1) - 1)], [], sM Ln (dd_u I 148 (upd (I 148) 0 0)) L c s)) (B := (10, [.int a1, .int 0, .int ((I 149 1) - 1)], [], sM Ln (dd_u I 148 (upd (I 148) 0 0)) L c s)) rfl (fun hc => ?_) (fun hc => ?_) (by omega)
    · have h := h.1 hc
      refine dd_Rn.retK 1 (pc := 15) (ls := [.int a1, .int 0, .int ((I 149 1) - 1)]) (st := [.int 0]) (M := sM Ln (dd_u I 148 (upd (I 148) 0 0)) L c s) (o := (none, .int 0, sM Ln (dd_u I 148 (upd (I 148) 0 0)) L c s)) rfl rfl (dd_Af.ret rfl ?_) (by omega)
      show dd_Rn (e + 15) m_X11_noBoy (11, [.ref 148, .int a1], [.int 0], sM Ln (dd_u I 148 (upd (I 148) 0 0)) L c s) _
      refine dd_Rn.retK 3 (pc := 19) (ls := [.ref 148, .int a1]) (st := [.int 1]) (M := sM Ln (dd_u I 148 (upd (I 148) 0 0)) L c s) (o := (none, .int 1, sM Ln (dd_u I 148 (upd (I 148) 0 0)) L c s)) rfl rfl (dd_Af.ret rfl ?_) (by omega)
      show dd_Rn (e + 16) m_X11_send (11, [.ref 148, .int a1, .int a2, .null], [.int 1, .ref 148], sM Ln (dd_u I 148 (upd (I 148) 0 0)) L c s) _
      refine dd_Rn.sub 4 (pc := 27) (ls := [.ref 148, .int a1, .int a2, .null]) (st := [.int 1, .int 1, .ref 148]) (M := sM Ln (dd_u I 148 (upd (I 148) 0 0)) L c s) (x := m_X11_throwsIf) (as := [.ref 148, .int 1, .int 1]) (rest := []) rfl rfl rfl rfl ?_
      show dd_Rn (e + 15) m_X11_throwsIf (0, [.ref 148, .int 1, .int 1], [], sM Ln (dd_u I 148 (upd (I 148) 0 0)) L c s) _
      refine dd_Rn.retK 6 (pc := 10) (ls := [.ref 148, .int 1, .int 1]) (st := [.int 1]) (M := sM Ln (dd_u (dd_u I 148 (upd (I 148) 0 0)) 148 (upd (upd (I 148) 0 0) 0 1)) L c s) (o := (none, .int 1, sM Ln (dd_u (dd_u I 148 (upd (I 148) 0 0)) 148 (upd (upd (I 148) 0 0) 0 1)) L c s)) rfl rfl (dd_Af.ret rfl ?_) (by omega)
      show dd_Rn (e + 16) m_X11_send (30, [.ref 148, .int a1, .int a2, .null], [.int 1], sM Ln (dd_u (dd_u I 148 (upd (I 148) 0 0)) 148 (upd (upd (I 148) 0 0) 0 1)) L c s) _
      exact dd_Rn.retK 2 (pc := 65) (ls := [.ref 148, .int a1, .int a2, .null]) (st := [.int 0]) (M := sM Ln (dd_u (dd_u I 148 (upd (I 148) 0 0)) 148 (upd (upd (I 148) 0 0) 0 1)) L c s) (o := (none, .int 0, sM Ln (dd_u (dd_u I 148 (upd (I 148) 0 0)) 148 (upd (upd (I 148) 0 0) 0 1)) L c s)) rfl rfl h (by omega)
    · have h := h.2 hc
      refine dd_Rn.retK 2 (pc := 15) (ls := [.int a1, .int 0, .int ((I 149 1) - 1)]) (st := [.int 1]) (M := sM Ln (dd_u I 148 (upd (I 148) 0 0)) L c s) (o := (none, .int 1, sM Ln (dd_u I 148 (upd (I 148) 0 0)) L c s)) rfl rfl (dd_Af.ret rfl ?_) (by omega)
      show dd_Rn (e + 15) m_X11_noBoy (11, [.ref 148, .int a1], [.int 1], sM Ln (dd_u I 148 (upd (I 148) 0 0)) L c s) _
      refine dd_Rn.retK 2 (pc := 19) (ls := [.ref 148, .int a1]) (st := [.int 0]) (M := sM Ln (dd_u I 148 (upd (I 148) 0 0)) L c s) (o := (none, .int 0, sM Ln (dd_u I 148 (upd (I 148) 0 0)) L c s)) rfl rfl (dd_Af.ret rfl ?_) (by omega)
      show dd_Rn (e + 16) m_X11_send (11, [.ref 148, .int a1, .int a2, .null], [.int 0, .ref 148], sM Ln (dd_u I 148 (upd (I 148) 0 0)) L c s) _
      refine dd_Rn.sub 2 (pc := 15) (ls := [.ref 148, .int a1, .int a2, .null]) (st := [.int a2, .ref 148]) (M := sM Ln (dd_u I 148 (upd (I 148) 0 0)) L c s) (x := m_X11_noCell) (as := [.int a2]) (rest := [.ref 148]) rfl rfl rfl rfl ?_
      show dd_Rn (e + 15) m_X11_noCell (0, [.int a2], [], sM Ln (dd_u I 148 (upd (I 148) 0 0)) L c s) _
      refine dd_Rn.sub 3 (pc := 4) (ls := [.int a2]) (st := [.int 63, .int 0, .int a2]) (M := sM Ln (dd_u I 148 (upd (I 148) 0 0)) L c s) (x := m_X11_in) (as := [.int a2, .int 0, .int 63]) (rest := []) rfl rfl rfl rfl ?_
      show dd_Rn (e + 14) m_X11_in (0, [.int a2, .int 0, .int 63], [], sM Ln (dd_u I 148 (upd (I 148) 0 0)) L c s) _
      refine dd_Rn.ite 2 (c := a2 < 0) (A := (14, [.int a2, .int 0, .int 63], [], sM Ln (dd_u I 148 (upd (I 148) 0 0)) L c s)) (B := (5, [.int a2, .int 0, .int 63], [], sM Ln (dd_u I 148 (upd (I 148) 0 0)) L c s)) rfl (fun hc => ?_) (fun hc => ?_) (by omega)
      · have h := h.1 hc
        refine dd_Rn.retK 1 (pc := 15) (ls := [.int a2, .int 0, .int 63]) (st := [.int 0]) (M := sM Ln (dd_u I 148 (upd (I 148) 0 0)) L c s) (o := (none, .int 0, sM Ln (dd_u I 148 (upd (I 148) 0 0)) L c s)) rfl rfl (dd_Af.ret rfl ?_) (by omega)
        show dd_Rn (e + 15) m_X11_noCell (7, [.int a2], [.int 0], sM Ln (dd_u I 148 (upd (I 148) 0 0)) L c s) _
        refine dd_Rn.retK 3 (pc := 15) (ls := [.int a2]) (st := [.int 1]) (M := sM Ln (dd_u I 148 (upd (I 148) 0 0)) L c s) (o := (none, .int 1, sM Ln (dd_u I 148 (upd (I 148) 0 0)) L c s)) rfl rfl (dd_Af.ret rfl ?_) (by omega)
        show dd_Rn (e + 16) m_X11_send (18, [.ref 148, .int a1, .int a2, .null], [.int 1, .ref 148], sM Ln (dd_u I 148 (upd (I 148) 0 0)) L c s) _
        refine dd_Rn.sub 4 (pc := 27) (ls := [.ref 148, .int a1, .int a2, .null]) (st := [.int 1, .int 1, .ref 148]) (M := sM Ln (dd_u I 148 (upd (I 148) 0 0)) L c s) (x := m_X11_throwsIf) (as := [.ref 148, .int 1, .int 1]) (rest := []) rfl rfl rfl rfl ?_
        show dd_Rn (e + 15) m_X11_throwsIf (0, [.ref 148, .int 1, .int 1], [], sM Ln (dd_u I 148 (upd (I 148) 0 0)) L c s) _
        refine dd_Rn.retK 6 (pc := 10) (ls := [.ref 148, .int 1, .int 1]) (st := [.int 1]) (M := sM Ln (dd_u (dd_u I 148 (upd (I 148) 0 0)) 148 (upd (upd (I 148) 0 0) 0 1)) L c s) (o := (none, .int 1, sM Ln (dd_u (dd_u I 148 (upd (I 148) 0 0)) 148 (upd (upd (I 148) 0 0) 0 1)) L c s)) rfl rfl (dd_Af.ret rfl ?_) (by omega)
        show dd_Rn (e + 16) m_X11_send (30, [.ref 148, .int a1, .int a2, .null], [.int 1], sM Ln (dd_u (dd_u I 148 (upd (I 148) 0 0)) 148 (upd (upd (I 148) 0 0) 0 1)) L c s) _
        exact dd_Rn.retK 2 (pc := 65) (ls := [.ref 148, .int a1, .int a2, .null]) (st := [.int 0]) (M := sM Ln (dd_u (dd_u I 148 (upd (I 148) 0 0)) 148 (upd (upd (I 148) 0 0) 0 1)) L c s) (o := (none, .int 0, sM Ln (dd_u (dd_u I 148 (upd (I 148) 0 0)) 148 (upd (upd (I 148) 0 0) 0 1)) L c s)) rfl rfl h (by omega)
      · have h := h.2 hc
        refine dd_Rn.ite 2 (c := (63 : Int32) < a2) (A := (14, [.int a2, .int 0, .int 63], [], sM Ln (dd_u I 148 (upd (I 148) 0 0)) L c s)) (B := (10, [.int a2, .int 0, .int 63], [], sM Ln (dd_u I 148 (upd (I 148) 0 0)) L c s)) rfl (fun hc => ?_) (fun hc => ?_) (by omega)
        · have h := h.1 hc
          refine dd_Rn.retK 1 (pc := 15) (ls := [.int a2, .int 0, .int 63]) (st := [.int 0]) (M := sM Ln (dd_u I 148 (upd (I 148) 0 0)) L c s) (o := (none, .int 0, sM Ln (dd_u I 148 (upd (I 148) 0 0)) L c s)) rfl rfl (dd_Af.ret rfl ?_) (by omega)
          show dd_Rn (e + 15) m_X11_noCell (7, [.int a2], [.int 0], sM Ln (dd_u I 148 (upd (I 148) 0 0)) L c s) _
          refine dd_Rn.retK 3 (pc := 15) (ls := [.int a2]) (st := [.int 1]) (M := sM Ln (dd_u I 148 (upd (I 148) 0 0)) L c s) (o := (none, .int 1, sM Ln (dd_u I 148 (upd (I 148) 0 0)) L c s)) rfl rfl (dd_Af.ret rfl ?_) (by omega)
          show dd_Rn (e + 16) m_X11_send (18, [.ref 148, .int a1, .int a2, .null], [.int 1, .ref 148], sM Ln (dd_u I 148 (upd (I 148) 0 0)) L c s) _
          refine dd_Rn.sub 4 (pc := 27) (ls := [.ref 148, .int a1, .int a2, .null]) (st := [.int 1, .int 1, .ref 148]) (M := sM Ln (dd_u I 148 (upd (I 148) 0 0)) L c s) (x := m_X11_throwsIf) (as := [.ref 148, .int 1, .int 1]) (rest := []) rfl rfl rfl rfl ?_
          show dd_Rn (e + 15) m_X11_throwsIf (0, [.ref 148, .int 1, .int 1], [], sM Ln (dd_u I 148 (upd (I 148) 0 0)) L c s) _
          refine dd_Rn.retK 6 (pc := 10) (ls := [.ref 148, .int 1, .int 1]) (st := [.int 1]) (M := sM Ln (dd_u (dd_u I 148 (upd (I 148) 0 0)) 148 (upd (upd (I 148) 0 0) 0 1)) L c s) (o := (none, .int 1, sM Ln (dd_u (dd_u I 148 (upd (I 148) 0 0)) 148 (upd (upd (I 148) 0 0) 0 1)) L c s)) rfl rfl (dd_Af.ret rfl ?_) (by omega)
          show dd_Rn (e + 16) m_X11_send (30, [.ref 148, .int a1, .int a2, .null], [.int 1], sM Ln (dd_u (dd_u I 148 (upd (I 148) 0 0)) 148 (upd (upd (I 148) 0 0) 0 1)) L c s) _
          exact dd_Rn.retK 2 (pc := 65) (ls := [.ref 148, .int a1, .int a2, .null]) (st := [.int 0]) (M := sM Ln (dd_u (dd_u I 148 (upd (I 148) 0 0)) 148 (upd (upd (I 148) 0 0) 0 1)) L c s) (o := (none, .int 0, sM Ln (dd_u (dd_u I 148 (upd (I 148) 0 0)) 148 (upd (upd (I 148) 0 0) 0 1)) L c s)) rfl rfl h (by omega)
        · have h := h.2 hc
          refine dd_Rn.retK 2 (pc := 15) (ls := [.int a2, .int 0, .int 63]) (st := [.int 1]) (M := sM Ln (dd_u I 148 (upd (I 148) 0 0)) L c s) (o := (none, .int 1, sM Ln (dd_u I 148 (upd (I 148) 0 0)) L c s)) rfl rfl (dd_Af.ret rfl ?_) (by omega)
          show dd_Rn (e + 15) m_X11_noCell (7, [.int a2], [.int 1], sM Ln (dd_u I 148 (upd (I 148) 0 0)) L c s) _
          refine dd_Rn.retK 2 (pc := 15) (ls := [.int a2]) (st := [.int 0]) (M := sM Ln (dd_u I 148 (upd (I 148) 0 0)) L c s) (o := (none, .int 0, sM Ln (dd_u I 148 (upd (I 148) 0 0)) L c s)) rfl rfl (dd_Af.ret rfl ?_) (by omega)
          show dd_Rn (e + 16) m_X11_send (18, [.ref 148, .int a1, .int a2, .null], [.int 0, .ref 148], sM Ln (dd_u I 148 (upd (I 148) 0 0)) L c s) _
          refine dd_Rn.sub 3 (pc := 27) (ls := [.ref 148, .int a1, .int a2, .null]) (st := [.int 1, .int 0, .ref 148]) (M := sM Ln (dd_u I 148 (upd (I 148) 0 0)) L c s) (x := m_X11_throwsIf) (as := [.ref 148, .int 0, .int 1]) (rest := []) rfl rfl rfl rfl ?_
          show dd_Rn (e + 15) m_X11_throwsIf (0, [.ref 148, .int 0, .int 1], [], sM Ln (dd_u I 148 (upd (I 148) 0 0)) L c s) _
          refine dd_Rn.retK 3 (pc := 10) (ls := [.ref 148, .int 0, .int 1]) (st := [.int 0]) (M := sM Ln (dd_u I 148 (upd (I 148) 0 0)) L c s) (o := (none, .int 0, sM Ln (dd_u I 148 (upd (I 148) 0 0)) L c s)) rfl rfl (dd_Af.ret rfl ?_) (by omega)
          show dd_Rn (e + 16) m_X11_send (30, [.ref 148, .int a1, .int a2, .null], [.int 0], sM Ln (dd_u I 148 (upd (I 148) 0 0)) L c s) _
          refine dd_Rn.sub 4 (pc := 36) (ls := [.ref 148, .int a1, .int a2, .null]) (st := [.int a2, .ref 148, .ref 148]) (M := sM Ln (dd_u I 148 (upd (I 148) 0 0)) L c s) (x := m_X11_hasTrees) (as := [.ref 148, .int a2]) (rest := [.ref 148]) rfl rfl rfl rfl ?_
          show dd_Rn (e + 15) m_X11_hasTrees (0, [.ref 148, .int a2], [], sM Ln (dd_u I 148 (upd (I 148) 0 0)) L c s) _
          obtain ⟨hc, h⟩ := h
          refine dd_Rn.go 5 (cf' := (8, [.ref 148, .int a2], [.int ((11 : Int32) + a2), .ref 149], sM Ln (dd_u I 148 (upd (I 148) 0 0)) L c s)) rfl ?_ (by omega)
          refine dd_Rn.ci (fun j0 => (8, [.ref 148, .int a2], [.int j0, .ref 149], sM Ln (dd_u I 148 (upd (I 148) 0 0)) L c s)) (fun j0 => (9, [.ref 148, .int a2], [.int (I 149 (tn j0))], sM Ln (dd_u I 148 (upd (I 148) 0 0)) L c s)) (fun j0 => 0 ≤ j0 ∧ tn j0 < 2220) ((11 : Int32) + a2) (fun j0 hc h => dd_Rn.chk 0 (c := 0 ≤ j0 ∧ tn j0 < 2220) (A := (9, [.ref 148, .int a2], [.int (I 149 (tn j0))], sM Ln (dd_u I 148 (upd (I 148) 0 0)) L c s)) rfl hc h (by omega)) hc ?_
          refine dd_Rn.se (cf := (9, [.ref 148, .int a2], [.int (I 149 (tn ((11 : Int32) + a2)))], sM Ln (dd_u I 148 (upd (I 148) 0 0)) L c s)) ?_
          refine dd_Rn.ite 1 (c := I 149 (tn ((11 : Int32) + a2)) = 1) (A := (13, [.ref 148, .int a2], [], sM Ln (dd_u I 148 (upd (I 148) 0 0)) L c s)) (B := (17, [.ref 148, .int a2], [], sM Ln (dd_u I 148 (upd (I 148) 0 0)) L c s)) rfl (fun hc => ?_) (fun hc => ?_) (by omega)
          · have h := h.1 hc
            refine dd_Rn.retK 2 (pc := 18) (ls := [.ref 148, .int a2]) (st := [.int 1]) (M := sM Ln (dd_u I 148 (upd (I 148) 0 0)) L c s) (o := (none, .int 1, sM Ln (dd_u I 148 (upd (I 148) 0 0)) L c s)) rfl rfl (dd_Af.ret rfl ?_) (by omega)
            show dd_Rn (e + 16) m_X11_send (39, [.ref 148, .int a1, .int a2, .null], [.int 1, .ref 148], sM Ln (dd_u I 148 (upd (I 148) 0 0)) L c s) _
            refine dd_Rn.sub 4 (pc := 58) (ls := [.ref 148, .int a1, .int a2, .null]) (st := [.int 2, .int 1, .ref 148]) (M := sM Ln (dd_u I 148 (upd (I 148) 0 0)) L c s) (x := m_X11_throwsIf) (as := [.ref 148, .int 1, .int 2]) (rest := []) rfl rfl rfl rfl ?_
            show dd_Rn (e + 15) m_X11_throwsIf (0, [.ref 148, .int 1, .int 2], [], sM Ln (dd_u I 148 (upd (I 148) 0 0)) L c s) _
            refine dd_Rn.retK 6 (pc := 10) (ls := [.ref 148, .int 1, .int 2]) (st := [.int 1]) (M := sM Ln (dd_u (dd_u I 148 (upd (I 148) 0 0)) 148 (upd (upd (I 148) 0 0) 0 2)) L c s) (o := (none, .int 1, sM Ln (dd_u (dd_u I 148 (upd (I 148) 0 0)) 148 (upd (upd (I 148) 0 0) 0 2)) L c s)) rfl rfl (dd_Af.ret rfl ?_) (by omega)
            show dd_Rn (e + 16) m_X11_send (61, [.ref 148, .int a1, .int a2, .null], [.int 1], sM Ln (dd_u (dd_u I 148 (upd (I 148) 0 0)) 148 (upd (upd (I 148) 0 0) 0 2)) L c s) _
            exact dd_Rn.retK 2 (pc := 65) (ls := [.ref 148, .int a1, .int a2, .null]) (st := [.int 0]) (M := sM Ln (dd_u (dd_u I 148 (upd (I 148) 0 0)) 148 (upd (upd (I 148) 0 0) 0 2)) L c s) (o := (none, .int 0, sM Ln (dd_u (dd_u I 148 (upd (I 148) 0 0)) 148 (upd (upd (I 148) 0 0) 0 2)) L c s)) rfl rfl h (by omega)
          · have h := h.2 hc
            refine dd_Rn.retK 1 (pc := 18) (ls := [.ref 148, .int a2]) (st := [.int 0]) (M := sM Ln (dd_u I 148 (upd (I 148) 0 0)) L c s) (o := (none, .int 0, sM Ln (dd_u I 148 (upd (I 148) 0 0)) L c s)) rfl rfl (dd_Af.ret rfl ?_) (by omega)
            show dd_Rn (e + 16) m_X11_send (39, [.ref 148, .int a1, .int a2, .null], [.int 0, .ref 148], sM Ln (dd_u I 148 (upd (I 148) 0 0)) L c s) _
            refine dd_Rn.ite 6 (c := a2 = I 149 4) (A := (52, [.ref 148, .int a1, .int a2, .null], [.ref 148], sM Ln (dd_u I 148 (upd (I 148) 0 0)) L c s)) (B := (56, [.ref 148, .int a1, .int a2, .null], [.ref 148], sM Ln (dd_u I 148 (upd (I 148) 0 0)) L c s)) rfl (fun hc => ?_) (fun hc => ?_) (by omega)
            · have h := h.1 hc
              refine dd_Rn.sub 3 (pc := 58) (ls := [.ref 148, .int a1, .int a2, .null]) (st := [.int 2, .int 1, .ref 148]) (M := sM Ln (dd_u I 148 (upd (I 148) 0 0)) L c s) (x := m_X11_throwsIf) (as := [.ref 148, .int 1, .int 2]) (rest := []) rfl rfl rfl rfl ?_
              show dd_Rn (e + 15) m_X11_throwsIf (0, [.ref 148, .int 1, .int 2], [], sM Ln (dd_u I 148 (upd (I 148) 0 0)) L c s) _
              refine dd_Rn.retK 6 (pc := 10) (ls := [.ref 148, .int 1, .int 2]) (st := [.int 1]) (M := sM Ln (dd_u (dd_u I 148 (upd (I 148) 0 0)) 148 (upd (upd (I 148) 0 0) 0 2)) L c s) (o := (none, .int 1, sM Ln (dd_u (dd_u I 148 (upd (I 148) 0 0)) 148 (upd (upd (I 148) 0 0) 0 2)) L c s)) rfl rfl (dd_Af.ret rfl ?_) (by omega)
              show dd_Rn (e + 16) m_X11_send (61, [.ref 148, .int a1, .int a2, .null], [.int 1], sM Ln (dd_u (dd_u I 148 (upd (I 148) 0 0)) 148 (upd (upd (I 148) 0 0) 0 2)) L c s) _
              exact dd_Rn.retK 2 (pc := 65) (ls := [.ref 148, .int a1, .int a2, .null]) (st := [.int 0]) (M := sM Ln (dd_u (dd_u I 148 (upd (I 148) 0 0)) 148 (upd (upd (I 148) 0 0) 0 2)) L c s) (o := (none, .int 0, sM Ln (dd_u (dd_u I 148 (upd (I 148) 0 0)) 148 (upd (upd (I 148) 0 0) 0 2)) L c s)) rfl rfl h (by omega)
            · have h := h.2 hc
              refine dd_Rn.sub 2 (pc := 58) (ls := [.ref 148, .int a1, .int a2, .null]) (st := [.int 2, .int 0, .ref 148]) (M := sM Ln (dd_u I 148 (upd (I 148) 0 0)) L c s) (x := m_X11_throwsIf) (as := [.ref 148, .int 0, .int 2]) (rest := []) rfl rfl rfl rfl ?_
              show dd_Rn (e + 15) m_X11_throwsIf (0, [.ref 148, .int 0, .int 2], [], sM Ln (dd_u I 148 (upd (I 148) 0 0)) L c s) _
              refine dd_Rn.retK 3 (pc := 10) (ls := [.ref 148, .int 0, .int 2]) (st := [.int 0]) (M := sM Ln (dd_u I 148 (upd (I 148) 0 0)) L c s) (o := (none, .int 0, sM Ln (dd_u I 148 (upd (I 148) 0 0)) L c s)) rfl rfl (dd_Af.ret rfl ?_) (by omega)
              show dd_Rn (e + 16) m_X11_send (61, [.ref 148, .int a1, .int a2, .null], [.int 0], sM Ln (dd_u I 148 (upd (I 148) 0 0)) L c s) _
              refine dd_Rn.cV 2 (pc := 67) (ls := [.ref 148, .int a1, .int a2, .null]) (st := [.ref 148]) (x := m_X11_remembers) (as := [.ref 148]) (rest := []) rfl rfl rfl rfl h ?_
              intro I1 L1 h
              show dd_Rn (e + 16) m_X11_send (70, [.ref 148, .int a1, .int a2, .null], [], sM Ln I1 L1 c s) _
              refine dd_Rn.sub 3 (pc := 73) (ls := [.ref 148, .int a1, .int a2, .null]) (st := [.int 0, .int a1, .ref 148]) (M := sM Ln I1 L1 c s) (x := m_X11_of) (as := [.ref 148, .int a1, .int 0]) (rest := []) rfl rfl rfl rfl ?_
              show dd_Rn (e + 15) m_X11_of (0, [.ref 148, .int a1, .int 0], [], sM Ln I1 L1 c s) _
              refine dd_Rn.sub 4 (pc := 6) (ls := [.ref 148, .int a1, .int 0]) (st := [.int 0, .int a1, .ref 149]) (M := sM Ln I1 L1 c s) (x := m_X11_at) (as := [.int a1, .int 0]) (rest := [.ref 149]) rfl rfl rfl rfl ?_
              show dd_Rn (e + 14) m_X11_at (0, [.int a1, .int 0], [], sM Ln I1 L1 c s) _
              refine dd_Rn.retK 7 (pc := 9) (ls := [.int a1, .int 0]) (st := [.int (((187 : Int32) + ((5 : Int32) * a1)) + 0)]) (M := sM Ln I1 L1 c s) (o := (none, .int (((187 : Int32) + ((5 : Int32) * a1)) + 0), sM Ln I1 L1 c s)) rfl rfl (dd_Af.ret rfl ?_) (by omega)
              show dd_Rn (e + 15) m_X11_of (9, [.ref 148, .int a1, .int 0], [.int (((187 : Int32) + ((5 : Int32) * a1)) + 0), .ref 149], sM Ln I1 L1 c s) _
              obtain ⟨hc, h⟩ := h
              refine dd_Rn.ci (fun j0 => (9, [.ref 148, .int a1, .int 0], [.int j0, .ref 149], sM Ln I1 L1 c s)) (fun j0 => (10, [.ref 148, .int a1, .int 0], [.int (I1 149 (tn j0))], sM Ln I1 L1 c s)) (fun j0 => 0 ≤ j0 ∧ tn j0 < 2220) (((187 : Int32) + ((5 : Int32) * a1)) + 0) (fun j0 hc h => dd_Rn.chk 0 (c := 0 ≤ j0 ∧ tn j0 < 2220) (A := (10, [.ref 148, .int a1, .int 0], [.int (I1 149 (tn j0))], sM Ln I1 L1 c s)) rfl hc h (by omega)) hc ?_
              refine dd_Rn.se (cf := (10, [.ref 148, .int a1, .int 0], [.int (I1 149 (tn (((187 : Int32) + ((5 : Int32) * a1)) + 0)))], sM Ln I1 L1 c s)) ?_
              refine dd_Rn.retK 0 (pc := 10) (ls := [.ref 148, .int a1, .int 0]) (st := [.int (I1 149 (tn (((187 : Int32) + ((5 : Int32) * a1)) + 0)))]) (M := sM Ln I1 L1 c s) (o := (none, .int (I1 149 (tn (((187 : Int32) + ((5 : Int32) * a1)) + 0))), sM Ln I1 L1 c s)) rfl rfl (dd_Af.ret rfl ?_) (by omega)
              show dd_Rn (e + 16) m_X11_send (76, [.ref 148, .int a1, .int a2, .null], [.int (I1 149 (tn (((187 : Int32) + ((5 : Int32) * a1)) + 0)))], sM Ln I1 L1 c s) _
              refine dd_Rn.sub 5 (pc := 83) (ls := [.ref 148, .int a1, .int a2, .int (I1 149 (tn (((187 : Int32) + ((5 : Int32) * a1)) + 0)))]) (st := [.int 0, .int a1, .ref 149]) (M := sM Ln I1 L1 c s) (x := m_X11_at) (as := [.int a1, .int 0]) (rest := [.ref 149]) rfl rfl rfl rfl ?_
              show dd_Rn (e + 15) m_X11_at (0, [.int a1, .int 0], [], sM Ln I1 L1 c s) _
              refine dd_Rn.retK 7 (pc := 9) (ls := [.int a1, .int 0]) (st := [.int (((187 : Int32) + ((5 : Int32) * a1)) + 0)]) (M := sM Ln I1 L1 c s) (o := (none, .int (((187 : Int32) + ((5 : Int32) * a1)) + 0), sM Ln I1 L1 c s)) rfl rfl (dd_Af.ret rfl ?_) (by omega)
              show dd_Rn (e + 16) m_X11_send (86, [.ref 148, .int a1, .int a2, .int (I1 149 (tn (((187 : Int32) + ((5 : Int32) * a1)) + 0)))], [.int (((187 : Int32) + ((5 : Int32) * a1)) + 0), .ref 149], sM Ln I1 L1 c s) _
              obtain ⟨hc, h⟩ := h
              refine dd_Rn.go 1 (cf' := (87, [.ref 148, .int a1, .int a2, .int (I1 149 (tn (((187 : Int32) + ((5 : Int32) * a1)) + 0)))], [.int a2, .int (((187 : Int32) + ((5 : Int32) * a1)) + 0), .ref 149], sM Ln I1 L1 c s)) rfl ?_ (by omega)
              refine dd_Rn.ci (fun j0 => (87, [.ref 148, .int a1, .int a2, .int (I1 149 (tn (((187 : Int32) + ((5 : Int32) * a1)) + 0)))], [.int a2, .int j0, .ref 149], sM Ln I1 L1 c s)) (fun j0 => (88, [.ref 148, .int a1, .int a2, .int (I1 149 (tn (((187 : Int32) + ((5 : Int32) * a1)) + 0)))], [], sM Ln (dd_u I1 149 (upd (I1 149) (tn j0) a2)) L1 c s)) (fun j0 => 0 ≤ j0 ∧ tn j0 < 2220) (((187 : Int32) + ((5 : Int32) * a1)) + 0) (fun j0 hc h => dd_Rn.chk 0 (c := 0 ≤ j0 ∧ tn j0 < 2220) (A := (88, [.ref 148, .int a1, .int a2, .int (I1 149 (tn (((187 : Int32) + ((5 : Int32) * a1)) + 0)))], [], sM Ln (dd_u I1 149 (upd (I1 149) (tn j0) a2)) L1 c s)) rfl hc h (by omega)) hc ?_
              refine dd_Rn.se (cf := (88, [.ref 148, .int a1, .int a2, .int (I1 149 (tn (((187 : Int32) + ((5 : Int32) * a1)) + 0)))], [], sM Ln (dd_u I1 149 (upd (I1 149) (tn (((187 : Int32) + ((5 : Int32) * a1)) + 0)) a2)) L1 c s)) ?_
              refine dd_Rn.sub 4 (pc := 94) (ls := [.ref 148, .int a1, .int a2, .int (I1 149 (tn (((187 : Int32) + ((5 : Int32) * a1)) + 0)))]) (st := [.int 3, .int a1, .ref 149]) (M := sM Ln (dd_u I1 149 (upd (I1 149) (tn (((187 : Int32) + ((5 : Int32) * a1)) + 0)) a2)) L1 c s) (x := m_X11_at) (as := [.int a1, .int 3]) (rest := [.ref 149]) rfl rfl rfl rfl ?_
              show dd_Rn (e + 15) m_X11_at (0, [.int a1, .int 3], [], sM Ln (dd_u I1 149 (upd (I1 149) (tn (((187 : Int32) + ((5 : Int32) * a1)) + 0)) a2)) L1 c s) _
              refine dd_Rn.retK 7 (pc := 9) (ls := [.int a1, .int 3]) (st := [.int (((187 : Int32) + ((5 : Int32) * a1)) + 3)]) (M := sM Ln (dd_u I1 149 (upd (I1 149) (tn (((187 : Int32) + ((5 : Int32) * a1)) + 0)) a2)) L1 c s) (o := (none, .int (((187 : Int32) + ((5 : Int32) * a1)) + 3), sM Ln (dd_u I1 149 (upd (I1 149) (tn (((187 : Int32) + ((5 : Int32) * a1)) + 0)) a2)) L1 c s)) rfl rfl (dd_Af.ret rfl ?_) (by omega)
              show dd_Rn (e + 16) m_X11_send (97, [.ref 148, .int a1, .int a2, .int (I1 149 (tn (((187 : Int32) + ((5 : Int32) * a1)) + 0)))], [.int (((187 : Int32) + ((5 : Int32) * a1)) + 3), .ref 149], sM Ln (dd_u I1 149 (upd (I1 149) (tn (((187 : Int32) + ((5 : Int32) * a1)) + 0)) a2)) L1 c s) _
              obtain ⟨hc, h⟩ := h
              refine dd_Rn.go 1 (cf' := (98, [.ref 148, .int a1, .int a2, .int (I1 149 (tn (((187 : Int32) + ((5 : Int32) * a1)) + 0)))], [.int 0, .int (((187 : Int32) + ((5 : Int32) * a1)) + 3), .ref 149], sM Ln (dd_u I1 149 (upd (I1 149) (tn (((187 : Int32) + ((5 : Int32) * a1)) + 0)) a2)) L1 c s)) rfl ?_ (by omega)
              refine dd_Rn.ci (fun j0 => (98, [.ref 148, .int a1, .int a2, .int (I1 149 (tn (((187 : Int32) + ((5 : Int32) * a1)) + 0)))], [.int 0, .int j0, .ref 149], sM Ln (dd_u I1 149 (upd (I1 149) (tn (((187 : Int32) + ((5 : Int32) * a1)) + 0)) a2)) L1 c s)) (fun j0 => (99, [.ref 148, .int a1, .int a2, .int (I1 149 (tn (((187 : Int32) + ((5 : Int32) * a1)) + 0)))], [], sM Ln (dd_u (dd_u I1 149 (upd (I1 149) (tn (((187 : Int32) + ((5 : Int32) * a1)) + 0)) a2)) 149 (upd (upd (I1 149) (tn (((187 : Int32) + ((5 : Int32) * a1)) + 0)) a2) (tn j0) 0)) L1 c s)) (fun j0 => 0 ≤ j0 ∧ tn j0 < 2220) (((187 : Int32) + ((5 : Int32) * a1)) + 3) (fun j0 hc h => dd_Rn.chk 0 (c := 0 ≤ j0 ∧ tn j0 < 2220) (A := (99, [.ref 148, .int a1, .int a2, .int (I1 149 (tn (((187 : Int32) + ((5 : Int32) * a1)) + 0)))], [], sM Ln (dd_u (dd_u I1 149 (upd (I1 149) (tn (((187 : Int32) + ((5 : Int32) * a1)) + 0)) a2)) 149 (upd (upd (I1 149) (tn (((187 : Int32) + ((5 : Int32) * a1)) + 0)) a2) (tn j0) 0)) L1 c s)) rfl hc h (by omega)) hc ?_
              refine dd_Rn.se (cf := (99, [.ref 148, .int a1, .int a2, .int (I1 149 (tn (((187 : Int32) + ((5 : Int32) * a1)) + 0)))], [], sM Ln (dd_u (dd_u I1 149 (upd (I1 149) (tn (((187 : Int32) + ((5 : Int32) * a1)) + 0)) a2)) 149 (upd (upd (I1 149) (tn (((187 : Int32) + ((5 : Int32) * a1)) + 0)) a2) (tn (((187 : Int32) + ((5 : Int32) * a1)) + 3)) 0)) L1 c s)) ?_
              exact dd_Rn.retK 1 (pc := 100) (ls := [.ref 148, .int a1, .int a2, .int (I1 149 (tn (((187 : Int32) + ((5 : Int32) * a1)) + 0)))]) (st := [.int (I1 149 (tn (((187 : Int32) + ((5 : Int32) * a1)) + 0)))]) (M := sM Ln (dd_u (dd_u I1 149 (upd (I1 149) (tn (((187 : Int32) + ((5 : Int32) * a1)) + 0)) a2)) 149 (upd (upd (I1 149) (tn (((187 : Int32) + ((5 : Int32) * a1)) + 0)) a2) (tn (((187 : Int32) + ((5 : Int32) * a1)) + 3)) 0)) L1 c s) (o := (none, .int (I1 149 (tn (((187 : Int32) + ((5 : Int32) * a1)) + 0))), sM Ln (dd_u (dd_u I1 149 (upd (I1 149) (tn (((187 : Int32) + ((5 : Int32) * a1)) + 0)) a2)) 149 (upd (upd (I1 149) (tn (((187 : Int32) + ((5 : Int32) * a1)) + 0)) a2) (tn (((187 : Int32) + ((5 : Int32) * a1)) + 3)) 0)) L1 c s)) rfl rfl h (by omega)

theorem w_X11_loud_0 {Ln d c s : Nat} {I : Nat → Nat → Int32} {L : Nat → Nat → Int64} {Q : dd_O → Prop} {a1 : Int32} (hd : 28 ≤ d) (h : ((a1 < 0 → Q (none, .int 0, sM Ln (dd_u (dd_u I 148 (upd (I 148) 0 0)) 148 (upd (upd (I 148) 0 0) 0 1)) L c s)) ∧ (¬ (a1 < 0) → (((15 : Int32) < a1 → Q (none, .int 0, sM Ln (dd_u (dd_u I 148 (upd (I 148) 0 0)) 148 (upd (upd (I 148) 0 0) 0 1)) L c s)) ∧ (¬ ((15 : Int32) < a1) → dd_Ev (d - 1) m_X11_isNow [.ref 148, .int 5, .int a1] (sM Ln (dd_u I 148 (upd (I 148) 0 0)) L c s) (dd_RI Ln c s (fun x1 I1 L1 => Q (none, .int x1, sM Ln I1 L1 c s)))))))) : dd_Ev d m_X11_loud [.ref 148, .int a1] (sM Ln I L c s) Q := by
  obtain ⟨e, rfl⟩ : ∃ e, d = e + 16 := ⟨d - 16, by omega⟩
  show dd_Rn (e + 16) m_X11_loud (0, [.ref 148, .int a1], [], sM Ln I L c s) Q
  refine dd_Rn.sub 7 (pc := 10) (ls := [.ref 148, .int a1]) (st := [.int 15, .int 0, .int a1, .ref 148]) (M := sM Ln (dd_u I 148 (upd (I 148) 0 0)) L c s) (x := m_X11_in) (as := [.int a1, .int 0, .int 15]) (rest := [.ref 148]) rfl rfl rfl rfl ?_
  show dd_Rn (e + 15) m_X11_in (0, [.int a1, .int 0, .int 15], [], sM Ln (dd_u I 148 (upd (I 148) 0 0)) L c s) _
  refine dd_Rn.ite 2 (c := a1 < 0) (A := (14, [.int a1, .int 0, .int 15], [], sM Ln (dd_u I 148 (upd (I 148) 0 0)) L c s)) (B := (5, [.int a1, .int 0, .int 15], [], sM Ln (dd_u I 148 (upd (I 148) 0 0)) L c s)) rfl (fun hc => ?_) (fun hc => ?_) (by omega)
  · have h := h.1 hc
    refine dd_Rn.retK 1 (pc := 15) (ls := [.int a1, .int 0, .int 15]) (st := [.int 0]) (M := sM Ln (dd_u I 148 (upd (I 148) 0 0)) L c s) (o := (none, .int 0, sM Ln (dd_u I 148 (upd (I 148) 0 0)) L c s)) rfl rfl (dd_Af.ret rfl ?_) (by omega)
    show dd_Rn (e + 16) m_X11_loud (13, [.ref 148, .int a1], [.int 0, .ref 148], sM Ln (dd_u I 148 (upd (I 148) 0 0)) L c s) _
    refine dd_Rn.sub 4 (pc := 22) (ls := [.ref 148, .int a1]) (st := [.int 1, .int 1, .ref 148]) (M := sM Ln (dd_u I 148 (upd (I 148) 0 0)) L c s) (x := m_X11_throwsIf) (as := [.ref 148, .int 1, .int 1]) (rest := []) rfl rfl rfl rfl ?_
    show dd_Rn (e + 15) m_X11_throwsIf (0, [.ref 148, .int 1, .int 1], [], sM Ln (dd_u I 148 (upd (I 148) 0 0)) L c s) _
    refine dd_Rn.retK 6 (pc := 10) (ls := [.ref 148, .int 1, .int 1]) (st := [.int 1]) (M := sM Ln (dd_u (dd_u I 148 (upd (I 148) 0 0)) 148 (upd (upd (I 148) 0 0) 0 1)) L c s) (o := (none, .int 1, sM Ln (dd_u (dd_u I 148 (upd (I 148) 0 0)) 148 (upd (upd (I 148) 0 0) 0 1)) L c s)) rfl rfl (dd_Af.ret rfl ?_) (by omega)
    show dd_Rn (e + 16) m_X11_loud (25, [.ref 148, .int a1], [.int 1], sM Ln (dd_u (dd_u I 148 (upd (I 148) 0 0)) 148 (upd (upd (I 148) 0 0) 0 1)) L c s) _
    exact dd_Rn.retK 3 (pc := 38) (ls := [.ref 148, .int a1]) (st := [.int 0]) (M := sM Ln (dd_u (dd_u I 148 (upd (I 148) 0 0)) 148 (upd (upd (I 148) 0 0) 0 1)) L c s) (o := (none, .int 0, sM Ln (dd_u (dd_u I 148 (upd (I 148) 0 0)) 148 (upd (upd (I 148) 0 0) 0 1)) L c s)) rfl rfl h (by omega)
  · have h := h.2 hc
    refine dd_Rn.ite 2 (c := (15 : Int32) < a1) (A := (14, [.int a1, .int 0, .int 15], [], sM Ln (dd_u I 148 (upd (I 148) 0 0)) L c s)) (B := (10, [.int a1, .int 0, .int 15], [], sM Ln (dd_u I 148 (upd (I 148) 0 0)) L c s)) rfl (fun hc => ?_) (fun hc => ?_) (by omega)
    · have h := h.1 hc
      refine dd_Rn.retK 1 (pc := 15) (ls := [.int a1, .int 0, .int 15]) (st := [.int 0]) (M := sM Ln (dd_u I 148 (upd (I 148) 0 0)) L c s) (o := (none, .int 0, sM Ln (dd_u I 148 (upd (I 148) 0 0)) L c s)) rfl rfl (dd_Af.ret rfl ?_) (by omega)
      show dd_Rn (e + 16) m_X11_loud (13, [.ref 148, .int a1], [.int 0, .ref 148], sM Ln (dd_u I 148 (upd (I 148) 0 0)) L c s) _
      refine dd_Rn.sub 4 (pc := 22) (ls := [.ref 148, .int a1]) (st := [.int 1, .int 1, .ref 148]) (M := sM Ln (dd_u I 148 (upd (I 148) 0 0)) L c s) (x := m_X11_throwsIf) (as := [.ref 148, .int 1, .int 1]) (rest := []) rfl rfl rfl rfl ?_
      show dd_Rn (e + 15) m_X11_throwsIf (0, [.ref 148, .int 1, .int 1], [], sM Ln (dd_u I 148 (upd (I 148) 0 0)) L c s) _
      refine dd_Rn.retK 6 (pc := 10) (ls := [.ref 148, .int 1, .int 1]) (st := [.int 1]) (M := sM Ln (dd_u (dd_u I 148 (upd (I 148) 0 0)) 148 (upd (upd (I 148) 0 0) 0 1)) L c s) (o := (none, .int 1, sM Ln (dd_u (dd_u I 148 (upd (I 148) 0 0)) 148 (upd (upd (I 148) 0 0) 0 1)) L c s)) rfl rfl (dd_Af.ret rfl ?_) (by omega)
      show dd_Rn (e + 16) m_X11_loud (25, [.ref 148, .int a1], [.int 1], sM Ln (dd_u (dd_u I 148 (upd (I 148) 0 0)) 148 (upd (upd (I 148) 0 0) 0 1)) L c s) _
      exact dd_Rn.retK 3 (pc := 38) (ls := [.ref 148, .int a1]) (st := [.int 0]) (M := sM Ln (dd_u (dd_u I 148 (upd (I 148) 0 0)) 148 (upd (upd (I 148) 0 0) 0 1)) L c s) (o := (none, .int 0, sM Ln (dd_u (dd_u I 148 (upd (I 148) 0 0)) 148 (upd (upd (I 148) 0 0) 0 1)) L c s)) rfl rfl h (by omega)
    · have h := h.2 hc
      refine dd_Rn.retK 2 (pc := 15) (ls := [.int a1, .int 0, .int 15]) (st := [.int 1]) (M := sM Ln (dd_u I 148 (upd (I 148) 0 0)) L c s) (o := (none, .int 1, sM Ln (dd_u I 148 (upd (I 148) 0 0)) L c s)) rfl rfl (dd_Af.ret rfl ?_) (by omega)
      show dd_Rn (e + 16) m_X11_loud (13, [.ref 148, .int a1], [.int 1, .ref 148], sM Ln (dd_u I 148 (upd (I 148) 0 0)) L c s) _
      refine dd_Rn.sub 3 (pc := 22) (ls := [.ref 148, .int a1]) (st := [.int 1, .int 0, .ref 148]) (M := sM Ln (dd_u I 148 (upd (I 148) 0 0)) L c s) (x := m_X11_throwsIf) (as := [.ref 148, .int 0, .int 1]) (rest := []) rfl rfl rfl rfl ?_
      show dd_Rn (e + 15) m_X11_throwsIf (0, [.ref 148, .int 0, .int 1], [], sM Ln (dd_u I 148 (upd (I 148) 0 0)) L c s) _
      refine dd_Rn.retK 3 (pc := 10) (ls := [.ref 148, .int 0, .int 1]) (st := [.int 0]) (M := sM Ln (dd_u I 148 (upd (I 148) 0 0)) L c s) (o := (none, .int 0, sM Ln (dd_u I 148 (upd (I 148) 0 0)) L c s)) rfl rfl (dd_Af.ret rfl ?_) (by omega)
      show dd_Rn (e + 16) m_X11_loud (25, [.ref 148, .int a1], [.int 0], sM Ln (dd_u I 148 (upd (I 148) 0 0)) L c s) _
      refine dd_Rn.cI 4 (pc := 35) (ls := [.ref 148, .int a1]) (st := [.int a1, .int 5, .ref 148]) (x := m_X11_isNow) (as := [.ref 148, .int 5, .int a1]) (rest := []) rfl rfl rfl rfl h ?_
      intro x1 I1 L1 h
      show dd_Rn (e + 16) m_X11_loud (38, [.ref 148, .int a1], [.int x1], sM Ln I1 L1 c s) _
      exact dd_Rn.retK 0 (pc := 38) (ls := [.ref 148, .int a1]) (st := [.int x1]) (M := sM Ln I1 L1 c s) (o := (none, .int x1, sM Ln I1 L1 c s)) rfl rfl h (by omega)

theorem w_X11_looksAround_0 {Ln d c s : Nat} {I : Nat → Nat → Int32} {L : Nat → Nat → Int64} {Q : dd_O → Prop} {a1 : Int32} (hd : 28 ≤ d) (h : dd_Rn d m_X11_looksAround (2, [.ref 148, .int a1, .int 0, .null, .null], [], sM Ln I L c s) Q) : dd_Ev d m_X11_looksAround [.ref 148, .int a1] (sM Ln I L c s) Q := by
  obtain ⟨e, rfl⟩ : ∃ e, d = e + 16 := ⟨d - 16, by omega⟩
  show dd_Rn (e + 16) m_X11_looksAround (0, [.ref 148, .int a1, .null, .null, .null], [], sM Ln I L c s) Q
  exact dd_Rn.go 2 (cf' := (2, [.ref 148, .int a1, .int 0, .null, .null], [], sM Ln I L c s)) rfl h (by omega)

theorem w_X11_looksAround_2 {Ln d c s : Nat} {I : Nat → Nat → Int32} {L : Nat → Nat → Int64} {Q : dd_O → Prop} {a1 a2 : Int32} (hd : 28 ≤ d) (h : (((64 : Int32) ≤ a2 → ((0 ≤ (11 : Int32) + a1 ∧ tn ((11 : Int32) + a1) < 2220) ∧ ((I 149 (tn ((11 : Int32) + a1)) = 1 → Q (none, .null, sM Ln (dd_u I 148 (upd (I 148) 21 0)) L c s)) ∧ (¬ (I 149 (tn ((11 : Int32) + a1)) = 1) → ((0 ≤ a1 ∧ tn a1 < 64) ∧ dd_Rn d m_X11_looksAround (56, [.ref 148, .int a1, .int 0, .null, .null], [], sM Ln (dd_u (dd_u (dd_u (dd_u I 148 (upd (I 148) 21 0)) 157 (upd (I 157) (tn a1) 0)) 158 (upd (I 158) 0 a1)) 148 (upd (upd (I 148) 21 0) 21 1)) L c s) Q))))) ∧ (¬ ((64 : Int32) ≤ a2) → ((0 ≤ a2 ∧ tn a2 < 64) ∧ dd_Rn d m_X11_looksAround (2, [.ref 148, .int a1, .int (a2 + 1), .null, .null], [], sM Ln (dd_u I 157 (upd (I 157) (tn a2) (-1))) L c s) Q)))) : dd_Rn d m_X11_looksAround (2, [.ref 148, .int a1, .int a2, .null, .null], [], sM Ln I L c s) Q := by
  obtain ⟨e, rfl⟩ : ∃ e, d = e + 16 := ⟨d - 16, by omega⟩
  refine dd_Rn.ite 2 (c := (64 : Int32) ≤ a2) (A := (21, [.ref 148, .int a1, .int a2, .null, .null], [], sM Ln I L c s)) (B := (8, [.ref 148, .int a1, .int a2, .null, .null], [], sM Ln I L c s)) rfl (fun hc => ?_) (fun hc => ?_) (by omega)
  · have h := h.1 hc
    refine dd_Rn.sub 5 (pc := 28) (ls := [.ref 148, .int a1, .int a2, .null, .null]) (st := [.int a1, .ref 148]) (M := sM Ln (dd_u I 148 (upd (I 148) 21 0)) L c s) (x := m_X11_hasTrees) (as := [.ref 148, .int a1]) (rest := []) rfl rfl rfl rfl ?_
    show dd_Rn (e + 15) m_X11_hasTrees (0, [.ref 148, .int a1], [], sM Ln (dd_u I 148 (upd (I 148) 21 0)) L c s) _
    obtain ⟨hc, h⟩ := h
    refine dd_Rn.go 5 (cf' := (8, [.ref 148, .int a1], [.int ((11 : Int32) + a1), .ref 149], sM Ln (dd_u I 148 (upd (I 148) 21 0)) L c s)) rfl ?_ (by omega)
    refine dd_Rn.ci (fun j0 => (8, [.ref 148, .int a1], [.int j0, .ref 149], sM Ln (dd_u I 148 (upd (I 148) 21 0)) L c s)) (fun j0 => (9, [.ref 148, .int a1], [.int (I 149 (tn j0))], sM Ln (dd_u I 148 (upd (I 148) 21 0)) L c s)) (fun j0 => 0 ≤ j0 ∧ tn j0 < 2220) ((11 : Int32) + a1) (fun j0 hc h => dd_Rn.chk 0 (c := 0 ≤ j0 ∧ tn j0 < 2220) (A := (9, [.ref 148, .int a1], [.int (I 149 (tn j0))], sM Ln (dd_u I 148 (upd (I 148) 21 0)) L c s)) rfl hc h (by omega)) hc ?_
    refine dd_Rn.se (cf := (9, [.ref 148, .int a1], [.int (I 149 (tn ((11 : Int32) + a1)))], sM Ln (dd_u I 148 (upd (I 148) 21 0)) L c s)) ?_
    refine dd_Rn.ite 1 (c := I 149 (tn ((11 : Int32) + a1)) = 1) (A := (13, [.ref 148, .int a1], [], sM Ln (dd_u I 148 (upd (I 148) 21 0)) L c s)) (B := (17, [.ref 148, .int a1], [], sM Ln (dd_u I 148 (upd (I 148) 21 0)) L c s)) rfl (fun hc => ?_) (fun hc => ?_) (by omega)
    · have h := h.1 hc
      refine dd_Rn.retK 2 (pc := 18) (ls := [.ref 148, .int a1]) (st := [.int 1]) (M := sM Ln (dd_u I 148 (upd (I 148) 21 0)) L c s) (o := (none, .int 1, sM Ln (dd_u I 148 (upd (I 148) 21 0)) L c s)) rfl rfl (dd_Af.ret rfl ?_) (by omega)
      show dd_Rn (e + 16) m_X11_looksAround (31, [.ref 148, .int a1, .int a2, .null, .null], [.int 1], sM Ln (dd_u I 148 (upd (I 148) 21 0)) L c s) _
      exact dd_Rn.retK 1 (pc := 34) (ls := [.ref 148, .int a1, .int a2, .null, .null]) (st := []) (M := sM Ln (dd_u I 148 (upd (I 148) 21 0)) L c s) (o := (none, .null, sM Ln (dd_u I 148 (upd (I 148) 21 0)) L c s)) rfl rfl h (by omega)
    · have h := h.2 hc
      refine dd_Rn.retK 1 (pc := 18) (ls := [.ref 148, .int a1]) (st := [.int 0]) (M := sM Ln (dd_u I 148 (upd (I 148) 21 0)) L c s) (o := (none, .int 0, sM Ln (dd_u I 148 (upd (I 148) 21 0)) L c s)) rfl rfl (dd_Af.ret rfl ?_) (by omega)
      show dd_Rn (e + 16) m_X11_looksAround (31, [.ref 148, .int a1, .int a2, .null, .null], [.int 0], sM Ln (dd_u I 148 (upd (I 148) 21 0)) L c s) _
      obtain ⟨hc, h⟩ := h
      refine dd_Rn.chk 5 (c := 0 ≤ a1 ∧ tn a1 < 64) (A := (42, [.ref 148, .int a1, .int a2, .null, .null], [], sM Ln (dd_u (dd_u I 148 (upd (I 148) 21 0)) 157 (upd (I 157) (tn a1) 0)) L c s)) rfl hc ?_ (by omega)
      exact dd_Rn.go 10 (cf' := (56, [.ref 148, .int a1, .int 0, .null, .null], [], sM Ln (dd_u (dd_u (dd_u (dd_u I 148 (upd (I 148) 21 0)) 157 (upd (I 157) (tn a1) 0)) 158 (upd (I 158) 0 a1)) 148 (upd (upd (I 148) 21 0) 21 1)) L c s)) rfl h (by omega)
  · have h := h.2 hc
    obtain ⟨hc, h⟩ := h
    refine dd_Rn.chk 4 (c := 0 ≤ a2 ∧ tn a2 < 64) (A := (15, [.ref 148, .int a1, .int a2, .null, .null], [], sM Ln (dd_u I 157 (upd (I 157) (tn a2) (-1))) L c s)) rfl hc ?_ (by omega)
    exact dd_Rn.go 2 (cf' := (2, [.ref 148, .int a1, .int (a2 + 1), .null, .null], [], sM Ln (dd_u I 157 (upd (I 157) (tn a2) (-1))) L c s)) rfl h (by omega)

theorem w_X11_looksAround_56 {Ln d c s : Nat} {I : Nat → Nat → Int32} {L : Nat → Nat → Int64} {Q : dd_O → Prop} {a1 a2 : Int32} {a3 a4 : Value} (hd : 28 ≤ d) (h : ((I 148 21 ≤ a2 → Q (none, .null, sM Ln I L c s)) ∧ (¬ (I 148 21 ≤ a2) → dd_Rn d m_X11_looksAround (66, [.ref 148, .int a1, .int a2, .int 1, a4], [], sM Ln I L c s) Q))) : dd_Rn d m_X11_looksAround (56, [.ref 148, .int a1, .int a2, a3, a4], [], sM Ln I L c s) Q := by
  obtain ⟨e, rfl⟩ : ∃ e, d = e + 16 := ⟨d - 16, by omega⟩
  refine dd_Rn.ite 3 (c := I 148 21 ≤ a2) (A := (151, [.ref 148, .int a1, .int a2, a3, a4], [], sM Ln I L c s)) (B := (64, [.ref 148, .int a1, .int a2, a3, a4], [], sM Ln I L c s)) rfl (fun hc => ?_) (fun hc => ?_) (by omega)
  · have h := h.1 hc
    exact dd_Rn.retK 0 (pc := 151) (ls := [.ref 148, .int a1, .int a2, a3, a4]) (st := []) (M := sM Ln I L c s) (o := (none, .null, sM Ln I L c s)) rfl rfl h (by omega)
  · have h := h.2 hc
    exact dd_Rn.go 2 (cf' := (66, [.ref 148, .int a1, .int a2, .int 1, a4], [], sM Ln I L c s)) rfl h (by omega)

theorem w_X11_looksAround_66 {Ln d c s : Nat} {I : Nat → Nat → Int32} {L : Nat → Nat → Int64} {Q : dd_O → Prop} {a1 a2 a3 : Int32} {a4 : Value} (hd : 28 ≤ d) (h : (((4 : Int32) < a3 → dd_Rn d m_X11_looksAround (56, [.ref 148, .int a1, .int (a2 + 1), .int a3, a4], [], sM Ln I L c s) Q) ∧ (¬ ((4 : Int32) < a3) → ((0 ≤ a2 ∧ tn a2 < 64) ∧ dd_Ev (d - 1) m_X11_stepTo [.ref 148, .int (I 158 (tn a2)), .int a3] (sM Ln I L c s) (dd_RI Ln c s (fun x1 I1 L1 => ((0 ≤ x1 ∧ tn x1 < 64) ∧ ((I1 157 (tn x1) = (-1) → ((0 ≤ a2 ∧ tn a2 < 64) ∧ ((0 ≤ I1 158 (tn a2) ∧ tn (I1 158 (tn a2)) < 64) ∧ ((0 ≤ x1 ∧ tn x1 < 64) ∧ ((0 ≤ I1 148 21 ∧ tn (I1 148 21) < 64) ∧ dd_Rn d m_X11_looksAround (66, [.ref 148, .int a1, .int a2, .int (a3 + 1), .int x1], [], sM Ln (dd_u (dd_u (dd_u I1 157 (upd (I1 157) (tn x1) ((I1 157 (tn (I1 158 (tn a2)))) + 1))) 158 (upd (I1 158) (tn (I1 148 21)) x1)) 148 (upd (I1 148) 21 ((I1 148 21) + 1))) L1 c s) Q))))) ∧ (¬ (I1 157 (tn x1) = (-1)) → dd_Rn d m_X11_looksAround (66, [.ref 148, .int a1, .int a2, .int (a3 + 1), .int x1], [], sM Ln I1 L1 c s) Q))))))))) : dd_Rn d m_X11_looksAround (66, [.ref 148, .int a1, .int a2, .int a3, a4], [], sM Ln I L c s) Q := by
  obtain ⟨e, rfl⟩ : ∃ e, d = e + 16 := ⟨d - 16, by omega⟩
  refine dd_Rn.ite 2 (c := (4 : Int32) < a3) (A := (145, [.ref 148, .int a1, .int a2, .int a3, a4], [], sM Ln I L c s)) (B := (71, [.ref 148, .int a1, .int a2, .int a3, a4], [], sM Ln I L c s)) rfl (fun hc => ?_) (fun hc => ?_) (by omega)
  · have h := h.1 hc
    exact dd_Rn.go 2 (cf' := (56, [.ref 148, .int a1, .int (a2 + 1), .int a3, a4], [], sM Ln I L c s)) rfl h (by omega)
  · have h := h.2 hc
    obtain ⟨hc, h⟩ := h
    refine dd_Rn.chk 4 (c := 0 ≤ a2 ∧ tn a2 < 64) (A := (78, [.ref 148, .int a1, .int a2, .int a3, a4], [.int (I 158 (tn a2)), .ref 148], sM Ln I L c s)) rfl hc ?_ (by omega)
    refine dd_Rn.cI 1 (pc := 79) (ls := [.ref 148, .int a1, .int a2, .int a3, a4]) (st := [.int a3, .int (I 158 (tn a2)), .ref 148]) (x := m_X11_stepTo) (as := [.ref 148, .int (I 158 (tn a2)), .int a3]) (rest := []) rfl rfl rfl rfl h ?_
    intro x1 I1 L1 h
    show dd_Rn (e + 16) m_X11_looksAround (82, [.ref 148, .int a1, .int a2, .int a3, a4], [.int x1], sM Ln I1 L1 c s) _
    obtain ⟨hc, h⟩ := h
    refine dd_Rn.chk 4 (c := 0 ≤ x1 ∧ tn x1 < 64) (A := (91, [.ref 148, .int a1, .int a2, .int a3, .int x1], [.int (I1 157 (tn x1))], sM Ln I1 L1 c s)) rfl hc ?_ (by omega)
    refine dd_Rn.ite 1 (c := I1 157 (tn x1) = (-1)) (A := (98, [.ref 148, .int a1, .int a2, .int a3, .int x1], [], sM Ln I1 L1 c s)) (B := (95, [.ref 148, .int a1, .int a2, .int a3, .int x1], [], sM Ln I1 L1 c s)) rfl (fun hc => ?_) (fun hc => ?_) (by omega)
    · have h := h.1 hc
      obtain ⟨hc, h⟩ := h
      refine dd_Rn.chk 8 (c := 0 ≤ a2 ∧ tn a2 < 64) (A := (114, [.ref 148, .int a1, .int a2, .int a3, .int x1], [.int (I1 158 (tn a2)), .ref 157, .int x1, .ref 157], sM Ln I1 L1 c s)) rfl hc ?_ (by omega)
      obtain ⟨hc, h⟩ := h
      refine dd_Rn.ci (fun j0 => (114, [.ref 148, .int a1, .int a2, .int a3, .int x1], [.int j0, .ref 157, .int x1, .ref 157], sM Ln I1 L1 c s)) (fun j0 => (115, [.ref 148, .int a1, .int a2, .int a3, .int x1], [.int (I1 157 (tn j0)), .int x1, .ref 157], sM Ln I1 L1 c s)) (fun j0 => 0 ≤ j0 ∧ tn j0 < 64) (I1 158 (tn a2)) (fun j0 hc h => dd_Rn.chk 0 (c := 0 ≤ j0 ∧ tn j0 < 64) (A := (115, [.ref 148, .int a1, .int a2, .int a3, .int x1], [.int (I1 157 (tn j0)), .int x1, .ref 157], sM Ln I1 L1 c s)) rfl hc h (by omega)) hc ?_
      refine dd_Rn.se (cf := (115, [.ref 148, .int a1, .int a2, .int a3, .int x1], [.int (I1 157 (tn (I1 158 (tn a2)))), .int x1, .ref 157], sM Ln I1 L1 c s)) ?_
      obtain ⟨hc, h⟩ := h
      refine dd_Rn.chk 2 (c := 0 ≤ x1 ∧ tn x1 < 64) (A := (118, [.ref 148, .int a1, .int a2, .int a3, .int x1], [], sM Ln (dd_u I1 157 (upd (I1 157) (tn x1) ((I1 157 (tn (I1 158 (tn a2)))) + 1))) L1 c s)) rfl hc ?_ (by omega)
      obtain ⟨hc, h⟩ := h
      refine dd_Rn.go 5 (cf' := (128, [.ref 148, .int a1, .int a2, .int a3, .int x1], [.int x1, .int (I1 148 21), .ref 158], sM Ln (dd_u I1 157 (upd (I1 157) (tn x1) ((I1 157 (tn (I1 158 (tn a2)))) + 1))) L1 c s)) rfl ?_ (by omega)
      refine dd_Rn.ci (fun j0 => (128, [.ref 148, .int a1, .int a2, .int a3, .int x1], [.int x1, .int j0, .ref 158], sM Ln (dd_u I1 157 (upd (I1 157) (tn x1) ((I1 157 (tn (I1 158 (tn a2)))) + 1))) L1 c s)) (fun j0 => (129, [.ref 148, .int a1, .int a2, .int a3, .int x1], [], sM Ln (dd_u (dd_u I1 157 (upd (I1 157) (tn x1) ((I1 157 (tn (I1 158 (tn a2)))) + 1))) 158 (upd (I1 158) (tn j0) x1)) L1 c s)) (fun j0 => 0 ≤ j0 ∧ tn j0 < 64) (I1 148 21) (fun j0 hc h => dd_Rn.chk 0 (c := 0 ≤ j0 ∧ tn j0 < 64) (A := (129, [.ref 148, .int a1, .int a2, .int a3, .int x1], [], sM Ln (dd_u (dd_u I1 157 (upd (I1 157) (tn x1) ((I1 157 (tn (I1 158 (tn a2)))) + 1))) 158 (upd (I1 158) (tn j0) x1)) L1 c s)) rfl hc h (by omega)) hc ?_
      refine dd_Rn.se (cf := (129, [.ref 148, .int a1, .int a2, .int a3, .int x1], [], sM Ln (dd_u (dd_u I1 157 (upd (I1 157) (tn x1) ((I1 157 (tn (I1 158 (tn a2)))) + 1))) 158 (upd (I1 158) (tn (I1 148 21)) x1)) L1 c s)) ?_
      exact dd_Rn.go 8 (cf' := (66, [.ref 148, .int a1, .int a2, .int (a3 + 1), .int x1], [], sM Ln (dd_u (dd_u (dd_u I1 157 (upd (I1 157) (tn x1) ((I1 157 (tn (I1 158 (tn a2)))) + 1))) 158 (upd (I1 158) (tn (I1 148 21)) x1)) 148 (upd (I1 148) 21 ((I1 148 21) + 1))) L1 c s)) rfl h (by omega)
    · have h := h.2 hc
      exact dd_Rn.go 3 (cf' := (66, [.ref 148, .int a1, .int a2, .int (a3 + 1), .int x1], [], sM Ln I1 L1 c s)) rfl h (by omega)

theorem w_X11_path_0 {Ln d c s : Nat} {I : Nat → Nat → Int32} {L : Nat → Nat → Int64} {Q : dd_O → Prop} {a1 a2 : Int32} (hd : 28 ≤ d) (h : ((a1 < 0 → Q (none, .int 0, sM Ln (dd_u (dd_u I 148 (upd (I 148) 0 0)) 148 (upd (upd (I 148) 0 0) 0 1)) L c s)) ∧ (¬ (a1 < 0) → (((63 : Int32) < a1 → Q (none, .int 0, sM Ln (dd_u (dd_u I 148 (upd (I 148) 0 0)) 148 (upd (upd (I 148) 0 0) 0 1)) L c s)) ∧ (¬ ((63 : Int32) < a1) → ((a2 < 0 → Q (none, .int 0, sM Ln (dd_u (dd_u I 148 (upd (I 148) 0 0)) 148 (upd (upd (I 148) 0 0) 0 1)) L c s)) ∧ (¬ (a2 < 0) → (((63 : Int32) < a2 → Q (none, .int 0, sM Ln (dd_u (dd_u I 148 (upd (I 148) 0 0)) 148 (upd (upd (I 148) 0 0) 0 1)) L c s)) ∧ (¬ ((63 : Int32) < a2) → dd_Ev (d - 1) m_X11_looksAround [.ref 148, .int a1] (sM Ln (dd_u I 148 (upd (I 148) 0 0)) L c s) (dd_RV Ln c s (fun I1 L1 => ((0 ≤ a2 ∧ tn a2 < 64) ∧ Q (none, .int (I1 157 (tn a2)), sM Ln I1 L1 c s))))))))))))) : dd_Ev d m_X11_path [.ref 148, .int a1, .int a2] (sM Ln I L c s) Q := by
  obtain ⟨e, rfl⟩ : ∃ e, d = e + 16 := ⟨d - 16, by omega⟩
  show dd_Rn (e + 16) m_X11_path (0, [.ref 148, .int a1, .int a2], [], sM Ln I L c s) Q
  refine dd_Rn.sub 5 (pc := 7) (ls := [.ref 148, .int a1, .int a2]) (st := [.int a1, .ref 148]) (M := sM Ln (dd_u I 148 (upd (I 148) 0 0)) L c s) (x := m_X11_noCell) (as := [.int a1]) (rest := [.ref 148]) rfl rfl rfl rfl ?_
  show dd_Rn (e + 15) m_X11_noCell (0, [.int a1], [], sM Ln (dd_u I 148 (upd (I 148) 0 0)) L c s) _
  refine dd_Rn.sub 3 (pc := 4) (ls := [.int a1]) (st := [.int 63, .int 0, .int a1]) (M := sM Ln (dd_u I 148 (upd (I 148) 0 0)) L c s) (x := m_X11_in) (as := [.int a1, .int 0, .int 63]) (rest := []) rfl rfl rfl rfl ?_
  show dd_Rn (e + 14) m_X11_in (0, [.int a1, .int 0, .int 63], [], sM Ln (dd_u I 148 (upd (I 148) 0 0)) L c s) _
  refine dd_Rn.ite 2 (c := a1 < 0) (A := (14, [.int a1, .int 0, .int 63], [], sM Ln (dd_u I 148 (upd (I 148) 0 0)) L c s)) (B := (5, [.int a1, .int 0, .int 63], [], sM Ln (dd_u I 148 (upd (I 148) 0 0)) L c s)) rfl (fun hc => ?_) (fun hc => ?_) (by omega)
  · have h := h.1 hc
    refine dd_Rn.retK 1 (pc := 15) (ls := [.int a1, .int 0, .int 63]) (st := [.int 0]) (M := sM Ln (dd_u I 148 (upd (I 148) 0 0)) L c s) (o := (none, .int 0, sM Ln (dd_u I 148 (upd (I 148) 0 0)) L c s)) rfl rfl (dd_Af.ret rfl ?_) (by omega)
    show dd_Rn (e + 15) m_X11_noCell (7, [.int a1], [.int 0], sM Ln (dd_u I 148 (upd (I 148) 0 0)) L c s) _
    refine dd_Rn.retK 3 (pc := 15) (ls := [.int a1]) (st := [.int 1]) (M := sM Ln (dd_u I 148 (upd (I 148) 0 0)) L c s) (o := (none, .int 1, sM Ln (dd_u I 148 (upd (I 148) 0 0)) L c s)) rfl rfl (dd_Af.ret rfl ?_) (by omega)
    show dd_Rn (e + 16) m_X11_path (10, [.ref 148, .int a1, .int a2], [.int 1, .ref 148], sM Ln (dd_u I 148 (upd (I 148) 0 0)) L c s) _
    refine dd_Rn.sub 4 (pc := 26) (ls := [.ref 148, .int a1, .int a2]) (st := [.int 1, .int 1, .ref 148]) (M := sM Ln (dd_u I 148 (upd (I 148) 0 0)) L c s) (x := m_X11_throwsIf) (as := [.ref 148, .int 1, .int 1]) (rest := []) rfl rfl rfl rfl ?_
    show dd_Rn (e + 15) m_X11_throwsIf (0, [.ref 148, .int 1, .int 1], [], sM Ln (dd_u I 148 (upd (I 148) 0 0)) L c s) _
    refine dd_Rn.retK 6 (pc := 10) (ls := [.ref 148, .int 1, .int 1]) (st := [.int 1]) (M := sM Ln (dd_u (dd_u I 148 (upd (I 148) 0 0)) 148 (upd (upd (I 148) 0 0) 0 1)) L c s) (o := (none, .int 1, sM Ln (dd_u (dd_u I 148 (upd (I 148) 0 0)) 148 (upd (upd (I 148) 0 0) 0 1)) L c s)) rfl rfl (dd_Af.ret rfl ?_) (by omega)
    show dd_Rn (e + 16) m_X11_path (29, [.ref 148, .int a1, .int a2], [.int 1], sM Ln (dd_u (dd_u I 148 (upd (I 148) 0 0)) 148 (upd (upd (I 148) 0 0) 0 1)) L c s) _
    exact dd_Rn.retK 2 (pc := 33) (ls := [.ref 148, .int a1, .int a2]) (st := [.int 0]) (M := sM Ln (dd_u (dd_u I 148 (upd (I 148) 0 0)) 148 (upd (upd (I 148) 0 0) 0 1)) L c s) (o := (none, .int 0, sM Ln (dd_u (dd_u I 148 (upd (I 148) 0 0)) 148 (upd (upd (I 148) 0 0) 0 1)) L c s)) rfl rfl h (by omega)
  · have h := h.2 hc
    refine dd_Rn.ite 2 (c := (63 : Int32) < a1) (A := (14, [.int a1, .int 0, .int 63], [], sM Ln (dd_u I 148 (upd (I 148) 0 0)) L c s)) (B := (10, [.int a1, .int 0, .int 63], [], sM Ln (dd_u I 148 (upd (I 148) 0 0)) L c s)) rfl (fun hc => ?_) (fun hc => ?_) (by omega)
    · have h := h.1 hc
      refine dd_Rn.retK 1 (pc := 15) (ls := [.int a1, .int 0, .int 63]) (st := [.int 0]) (M := sM Ln (dd_u I 148 (upd (I 148) 0 0)) L c s) (o := (none, .int 0, sM Ln (dd_u I 148 (upd (I 148) 0 0)) L c s)) rfl rfl (dd_Af.ret rfl ?_) (by omega)
      show dd_Rn (e + 15) m_X11_noCell (7, [.int a1], [.int 0], sM Ln (dd_u I 148 (upd (I 148) 0 0)) L c s) _
      refine dd_Rn.retK 3 (pc := 15) (ls := [.int a1]) (st := [.int 1]) (M := sM Ln (dd_u I 148 (upd (I 148) 0 0)) L c s) (o := (none, .int 1, sM Ln (dd_u I 148 (upd (I 148) 0 0)) L c s)) rfl rfl (dd_Af.ret rfl ?_) (by omega)
      show dd_Rn (e + 16) m_X11_path (10, [.ref 148, .int a1, .int a2], [.int 1, .ref 148], sM Ln (dd_u I 148 (upd (I 148) 0 0)) L c s) _
      refine dd_Rn.sub 4 (pc := 26) (ls := [.ref 148, .int a1, .int a2]) (st := [.int 1, .int 1, .ref 148]) (M := sM Ln (dd_u I 148 (upd (I 148) 0 0)) L c s) (x := m_X11_throwsIf) (as := [.ref 148, .int 1, .int 1]) (rest := []) rfl rfl rfl rfl ?_
      show dd_Rn (e + 15) m_X11_throwsIf (0, [.ref 148, .int 1, .int 1], [], sM Ln (dd_u I 148 (upd (I 148) 0 0)) L c s) _
      refine dd_Rn.retK 6 (pc := 10) (ls := [.ref 148, .int 1, .int 1]) (st := [.int 1]) (M := sM Ln (dd_u (dd_u I 148 (upd (I 148) 0 0)) 148 (upd (upd (I 148) 0 0) 0 1)) L c s) (o := (none, .int 1, sM Ln (dd_u (dd_u I 148 (upd (I 148) 0 0)) 148 (upd (upd (I 148) 0 0) 0 1)) L c s)) rfl rfl (dd_Af.ret rfl ?_) (by omega)
      show dd_Rn (e + 16) m_X11_path (29, [.ref 148, .int a1, .int a2], [.int 1], sM Ln (dd_u (dd_u I 148 (upd (I 148) 0 0)) 148 (upd (upd (I 148) 0 0) 0 1)) L c s) _
      exact dd_Rn.retK 2 (pc := 33) (ls := [.ref 148, .int a1, .int a2]) (st := [.int 0]) (M := sM Ln (dd_u (dd_u I 148 (upd (I 148) 0 0)) 148 (upd (upd (I 148) 0 0) 0 1)) L c s) (o := (none, .int 0, sM Ln (dd_u (dd_u I 148 (upd (I 148) 0 0)) 148 (upd (upd (I 148) 0 0) 0 1)) L c s)) rfl rfl h (by omega)
    · have h := h.2 hc
      refine dd_Rn.retK 2 (pc := 15) (ls := [.int a1, .int 0, .int 63]) (st := [.int 1]) (M := sM Ln (dd_u I 148 (upd (I 148) 0 0)) L c s) (o := (none, .int 1, sM Ln (dd_u I 148 (upd (I 148) 0 0)) L c s)) rfl rfl (dd_Af.ret rfl ?_) (by omega)
      show dd_Rn (e + 15) m_X11_noCell (7, [.int a1], [.int 1], sM Ln (dd_u I 148 (upd (I 148) 0 0)) L c s) _
      refine dd_Rn.retK 2 (pc := 15) (ls := [.int a1]) (st := [.int 0]) (M := sM Ln (dd_u I 148 (upd (I 148) 0 0)) L c s) (o := (none, .int 0, sM Ln (dd_u I 148 (upd (I 148) 0 0)) L c s)) rfl rfl (dd_Af.ret rfl ?_) (by omega)
      show dd_Rn (e + 16) m_X11_path (10, [.ref 148, .int a1, .int a2], [.int 0, .ref 148], sM Ln (dd_u I 148 (upd (I 148) 0 0)) L c s) _
      refine dd_Rn.sub 2 (pc := 14) (ls := [.ref 148, .int a1, .int a2]) (st := [.int a2, .ref 148]) (M := sM Ln (dd_u I 148 (upd (I 148) 0 0)) L c s) (x := m_X11_noCell) (as := [.int a2]) (rest := [.ref 148]) rfl rfl rfl rfl ?_
      show dd_Rn (e + 15) m_X11_noCell (0, [.int a2], [], sM Ln (dd_u I 148 (upd (I 148) 0 0)) L c s) _
      refine dd_Rn.sub 3 (pc := 4) (ls := [.int a2]) (st := [.int 63, .int 0, .int a2]) (M := sM Ln (dd_u I 148 (upd (I 148) 0 0)) L c s) (x := m_X11_in) (as := [.int a2, .int 0, .int 63]) (rest := []) rfl rfl rfl rfl ?_
      show dd_Rn (e + 14) m_X11_in (0, [.int a2, .int 0, .int 63], [], sM Ln (dd_u I 148 (upd (I 148) 0 0)) L c s) _
      refine dd_Rn.ite 2 (c := a2 < 0) (A := (14, [.int a2, .int 0, .int 63], [], sM Ln (dd_u I 148 (upd (I 148) 0 0)) L c s)) (B := (5, [.int a2, .int 0, .int 63], [], sM Ln (dd_u I 148 (upd (I 148) 0 0)) L c s)) rfl (fun hc => ?_) (fun hc => ?_) (by omega)
      · have h := h.1 hc
        refine dd_Rn.retK 1 (pc := 15) (ls := [.int a2, .int 0, .int 63]) (st := [.int 0]) (M := sM Ln (dd_u I 148 (upd (I 148) 0 0)) L c s) (o := (none, .int 0, sM Ln (dd_u I 148 (upd (I 148) 0 0)) L c s)) rfl rfl (dd_Af.ret rfl ?_) (by omega)
        show dd_Rn (e + 15) m_X11_noCell (7, [.int a2], [.int 0], sM Ln (dd_u I 148 (upd (I 148) 0 0)) L c s) _
        refine dd_Rn.retK 3 (pc := 15) (ls := [.int a2]) (st := [.int 1]) (M := sM Ln (dd_u I 148 (upd (I 148) 0 0)) L c s) (o := (none, .int 1, sM Ln (dd_u I 148 (upd (I 148) 0 0)) L c s)) rfl rfl (dd_Af.ret rfl ?_) (by omega)
        show dd_Rn (e + 16) m_X11_path (17, [.ref 148, .int a1, .int a2], [.int 1, .ref 148], sM Ln (dd_u I 148 (upd (I 148) 0 0)) L c s) _
        refine dd_Rn.sub 4 (pc := 26) (ls := [.ref 148, .int a1, .int a2]) (st := [.int 1, .int 1, .ref 148]) (M := sM Ln (dd_u I 148 (upd (I 148) 0 0)) L c s) (x := m_X11_throwsIf) (as := [.ref 148, .int 1, .int 1]) (rest := []) rfl rfl rfl rfl ?_
        show dd_Rn (e + 15) m_X11_throwsIf (0, [.ref 148, .int 1, .int 1], [], sM Ln (dd_u I 148 (upd (I 148) 0 0)) L c s) _
        refine dd_Rn.retK 6 (pc := 10) (ls := [.ref 148, .int 1, .int 1]) (st := [.int 1]) (M := sM Ln (dd_u (dd_u I 148 (upd (I 148) 0 0)) 148 (upd (upd (I 148) 0 0) 0 1)) L c s) (o := (none, .int 1, sM Ln (dd_u (dd_u I 148 (upd (I 148) 0 0)) 148 (upd (upd (I 148) 0 0) 0 1)) L c s)) rfl rfl (dd_Af.ret rfl ?_) (by omega)
        show dd_Rn (e + 16) m_X11_path (29, [.ref 148, .int a1, .int a2], [.int 1], sM Ln (dd_u (dd_u I 148 (upd (I 148) 0 0)) 148 (upd (upd (I 148) 0 0) 0 1)) L c s) _
        exact dd_Rn.retK 2 (pc := 33) (ls := [.ref 148, .int a1, .int a2]) (st := [.int 0]) (M := sM Ln (dd_u (dd_u I 148 (upd (I 148) 0 0)) 148 (upd (upd (I 148) 0 0) 0 1)) L c s) (o := (none, .int 0, sM Ln (dd_u (dd_u I 148 (upd (I 148) 0 0)) 148 (upd (upd (I 148) 0 0) 0 1)) L c s)) rfl rfl h (by omega)
      · have h := h.2 hc
        refine dd_Rn.ite 2 (c := (63 : Int32) < a2) (A := (14, [.int a2, .int 0, .int 63], [], sM Ln (dd_u I 148 (upd (I 148) 0 0)) L c s)) (B := (10, [.int a2, .int 0, .int 63], [], sM Ln (dd_u I 148 (upd (I 148) 0 0)) L c s)) rfl (fun hc => ?_) (fun hc => ?_) (by omega)
        · have h := h.1 hc
          refine dd_Rn.retK 1 (pc := 15) (ls := [.int a2, .int 0, .int 63]) (st := [.int 0]) (M := sM Ln (dd_u I 148 (upd (I 148) 0 0)) L c s) (o := (none, .int 0, sM Ln (dd_u I 148 (upd (I 148) 0 0)) L c s)) rfl rfl (dd_Af.ret rfl ?_) (by omega)
          show dd_Rn (e + 15) m_X11_noCell (7, [.int a2], [.int 0], sM Ln (dd_u I 148 (upd (I 148) 0 0)) L c s) _
          refine dd_Rn.retK 3 (pc := 15) (ls := [.int a2]) (st := [.int 1]) (M := sM Ln (dd_u I 148 (upd (I 148) 0 0)) L c s) (o := (none, .int 1, sM Ln (dd_u I 148 (upd (I 148) 0 0)) L c s)) rfl rfl (dd_Af.ret rfl ?_) (by omega)
          show dd_Rn (e + 16) m_X11_path (17, [.ref 148, .int a1, .int a2], [.int 1, .ref 148], sM Ln (dd_u I 148 (upd (I 148) 0 0)) L c s) _
          refine dd_Rn.sub 4 (pc := 26) (ls := [.ref 148, .int a1, .int a2]) (st := [.int 1, .int 1, .ref 148]) (M := sM Ln (dd_u I 148 (upd (I 148) 0 0)) L c s) (x := m_X11_throwsIf) (as := [.ref 148, .int 1, .int 1]) (rest := []) rfl rfl rfl rfl ?_
          show dd_Rn (e + 15) m_X11_throwsIf (0, [.ref 148, .int 1, .int 1], [], sM Ln (dd_u I 148 (upd (I 148) 0 0)) L c s) _
          refine dd_Rn.retK 6 (pc := 10) (ls := [.ref 148, .int 1, .int 1]) (st := [.int 1]) (M := sM Ln (dd_u (dd_u I 148 (upd (I 148) 0 0)) 148 (upd (upd (I 148) 0 0) 0 1)) L c s) (o := (none, .int 1, sM Ln (dd_u (dd_u I 148 (upd (I 148) 0 0)) 148 (upd (upd (I 148) 0 0) 0 1)) L c s)) rfl rfl (dd_Af.ret rfl ?_) (by omega)
          show dd_Rn (e + 16) m_X11_path (29, [.ref 148, .int a1, .int a2], [.int 1], sM Ln (dd_u (dd_u I 148 (upd (I 148) 0 0)) 148 (upd (upd (I 148) 0 0) 0 1)) L c s) _
          exact dd_Rn.retK 2 (pc := 33) (ls := [.ref 148, .int a1, .int a2]) (st := [.int 0]) (M := sM Ln (dd_u (dd_u I 148 (upd (I 148) 0 0)) 148 (upd (upd (I 148) 0 0) 0 1)) L c s) (o := (none, .int 0, sM Ln (dd_u (dd_u I 148 (upd (I 148) 0 0)) 148 (upd (upd (I 148) 0 0) 0 1)) L c s)) rfl rfl h (by omega)
        · have h := h.2 hc
          refine dd_Rn.retK 2 (pc := 15) (ls := [.int a2, .int 0, .int 63]) (st := [.int 1]) (M := sM Ln (dd_u I 148 (upd (I 148) 0 0)) L c s) (o := (none, .int 1, sM Ln (dd_u I 148 (upd (I 148) 0 0)) L c s)) rfl rfl (dd_Af.ret rfl ?_) (by omega)
          show dd_Rn (e + 15) m_X11_noCell (7, [.int a2], [.int 1], sM Ln (dd_u I 148 (upd (I 148) 0 0)) L c s) _
          refine dd_Rn.retK 2 (pc := 15) (ls := [.int a2]) (st := [.int 0]) (M := sM Ln (dd_u I 148 (upd (I 148) 0 0)) L c s) (o := (none, .int 0, sM Ln (dd_u I 148 (upd (I 148) 0 0)) L c s)) rfl rfl (dd_Af.ret rfl ?_) (by omega)
          show dd_Rn (e + 16) m_X11_path (17, [.ref 148, .int a1, .int a2], [.int 0, .ref 148], sM Ln (dd_u I 148 (upd (I 148) 0 0)) L c s) _
          refine dd_Rn.sub 3 (pc := 26) (ls := [.ref 148, .int a1, .int a2]) (st := [.int 1, .int 0, .ref 148]) (M := sM Ln (dd_u I 148 (upd (I 148) 0 0)) L c s) (x := m_X11_throwsIf) (as := [.ref 148, .int 0, .int 1]) (rest := []) rfl rfl rfl rfl ?_
          show dd_Rn (e + 15) m_X11_throwsIf (0, [.ref 148, .int 0, .int 1], [], sM Ln (dd_u I 148 (upd (I 148) 0 0)) L c s) _
          refine dd_Rn.retK 3 (pc := 10) (ls := [.ref 148, .int 0, .int 1]) (st := [.int 0]) (M := sM Ln (dd_u I 148 (upd (I 148) 0 0)) L c s) (o := (none, .int 0, sM Ln (dd_u I 148 (upd (I 148) 0 0)) L c s)) rfl rfl (dd_Af.ret rfl ?_) (by omega)
          show dd_Rn (e + 16) m_X11_path (29, [.ref 148, .int a1, .int a2], [.int 0], sM Ln (dd_u I 148 (upd (I 148) 0 0)) L c s) _
          refine dd_Rn.cV 3 (pc := 36) (ls := [.ref 148, .int a1, .int a2]) (st := [.int a1, .ref 148]) (x := m_X11_looksAround) (as := [.ref 148, .int a1]) (rest := []) rfl rfl rfl rfl h ?_
          intro I1 L1 h
          show dd_Rn (e + 16) m_X11_path (39, [.ref 148, .int a1, .int a2], [], sM Ln I1 L1 c s) _
          obtain ⟨hc, h⟩ := h
          refine dd_Rn.chk 3 (c := 0 ≤ a2 ∧ tn a2 < 64) (A := (45, [.ref 148, .int a1, .int a2], [.int (I1 157 (tn a2))], sM Ln I1 L1 c s)) rfl hc ?_ (by omega)
          exact dd_Rn.retK 0 (pc := 45) (ls := [.ref 148, .int a1, .int a2]) (st := [.int (I1 157 (tn a2))]) (M := sM Ln I1 L1 c s) (o := (none, .int (I1 157 (tn a2)), sM Ln I1 L1 c s)) rfl rfl h (by omega)

theorem w_X11_pathsTo_0 {Ln d c s : Nat} {I : Nat → Nat → Int32} {L : Nat → Nat → Int64} {Q : dd_O → Prop} {a1 : Int32} (hd : 28 ≤ d) (h : dd_Ev (d - 1) m_X11_looksAround [.ref 148, .int a1] (sM Ln I L c s) (dd_RV Ln c s (fun I1 L1 => dd_Rn d m_X11_pathsTo (9, [.ref 148, .int a1, .int 0, .int 0], [], sM Ln I1 L1 c s) Q))) : dd_Ev d m_X11_pathsTo [.ref 148, .int a1] (sM Ln I L c s) Q := by
  obtain ⟨e, rfl⟩ : ∃ e, d = e + 16 := ⟨d - 16, by omega⟩
  show dd_Rn (e + 16) m_X11_pathsTo (0, [.ref 148, .int a1, .null, .null], [], sM Ln I L c s) Q
  refine dd_Rn.cV 2 (pc := 2) (ls := [.ref 148, .int a1, .null, .null]) (st := [.int a1, .ref 148]) (x := m_X11_looksAround) (as := [.ref 148, .int a1]) (rest := []) rfl rfl rfl rfl h ?_
  intro I1 L1 h
  show dd_Rn (e + 16) m_X11_pathsTo (5, [.ref 148, .int a1, .null, .null], [], sM Ln I1 L1 c s) _
  exact dd_Rn.go 4 (cf' := (9, [.ref 148, .int a1, .int 0, .int 0], [], sM Ln I1 L1 c s)) rfl h (by omega)

theorem w_X11_pathsTo_9 {Ln d c s : Nat} {I : Nat → Nat → Int32} {L : Nat → Nat → Int64} {Q : dd_O → Prop} {a1 a2 a3 : Int32} (hd : 28 ≤ d) (h : ((I 149 1 ≤ a3 → Q (none, .int (if a2 < 1000000 then a2 else 1000000), sM Ln I L c s)) ∧ (¬ (I 149 1 ≤ a3) → ((0 ≤ ((187 : Int32) + ((5 : Int32) * a3)) + 3 ∧ tn (((187 : Int32) + ((5 : Int32) * a3)) + 3) < 2220) ∧ ((I 149 (tn (((187 : Int32) + ((5 : Int32) * a3)) + 3)) = 1 → dd_Rn d m_X11_pathsTo (9, [.ref 148, .int a1, .int a2, .int (a3 + 1)], [], sM Ln I L c s) Q) ∧ (¬ (I 149 (tn (((187 : Int32) + ((5 : Int32) * a3)) + 3)) = 1) → ((0 ≤ ((187 : Int32) + ((5 : Int32) * a3)) + 0 ∧ tn (((187 : Int32) + ((5 : Int32) * a3)) + 0) < 2220) ∧ ((0 ≤ I 149 (tn (((187 : Int32) + ((5 : Int32) * a3)) + 0)) ∧ tn (I 149 (tn (((187 : Int32) + ((5 : Int32) * a3)) + 0))) < 64) ∧ ((I 157 (tn (I 149 (tn (((187 : Int32) + ((5 : Int32) * a3)) + 0)))) = (-1) → dd_Rn d m_X11_pathsTo (9, [.ref 148, .int a1, .int (a2 + 1000000), .int (a3 + 1)], [], sM Ln I L c s) Q) ∧ (¬ (I 157 (tn (I 149 (tn (((187 : Int32) + ((5 : Int32) * a3)) + 0)))) = (-1)) → ((0 ≤ ((187 : Int32) + ((5 : Int32) * a3)) + 0 ∧ tn (((187 : Int32) + ((5 : Int32) * a3)) + 0) < 2220) ∧ ((0 ≤ I 149 (tn (((187 : Int32) + ((5 : Int32) * a3)) + 0)) ∧ tn (I 149 (tn (((187 : Int32) + ((5 : Int32) * a3)) + 0))) < 64) ∧ dd_Rn d m_X11_pathsTo (9, [.ref 148, .int a1, .int (a2 + (I 157 (tn (I 149 (tn (((187 : Int32) + ((5 : Int32) * a3)) + 0)))))), .int (a3 + 1)], [], sM Ln I L c s) Q)))))))))))) : dd_Rn d m_X11_pathsTo (9, [.ref 148, .int a1, .int a2, .int a3], [], sM Ln I L c s) Q := by
  obtain ⟨e, rfl⟩ : ∃ e, d = e + 16 := ⟨d - 16, by omega⟩
  refine dd_Rn.sub 2 (pc := 11) (ls := [.ref 148, .int a1, .int a2, .int a3]) (st := [.ref 148, .int a3]) (M := sM Ln I L c s) (x := m_X11_boys) (as := [.ref 148]) (rest := [.int a3]) rfl rfl rfl rfl ?_
  show dd_Rn (e + 15) m_X11_boys (0, [.ref 148], [], sM Ln I L c s) _
  refine dd_Rn.retK 4 (pc := 6) (ls := [.ref 148]) (st := [.int (I 149 1)]) (M := sM Ln I L c s) (o := (none, .int (I 149 1), sM Ln I L c s)) rfl rfl (dd_Af.ret rfl ?_) (by omega)
  show dd_Rn (e + 16) m_X11_pathsTo (14, [.ref 148, .int a1, .int a2, .int a3], [.int (I 149 1), .int a3], sM Ln I L c s) _
  refine dd_Rn.ite 0 (c := I 149 1 ≤ a3) (A := (66, [.ref 148, .int a1, .int a2, .int a3], [], sM Ln I L c s)) (B := (17, [.ref 148, .int a1, .int a2, .int a3], [], sM Ln I L c s)) rfl (fun hc => ?_) (fun hc => ?_) (by omega)
  · have h := h.1 hc
    exact dd_Rn.retK 3 (pc := 73) (ls := [.ref 148, .int a1, .int a2, .int a3]) (st := [.int (if a2 < 1000000 then a2 else 1000000)]) (M := sM Ln I L c s) (o := (none, .int (if a2 < 1000000 then a2 else 1000000), sM Ln I L c s)) rfl rfl h (by omega)
  · have h := h.2 hc
    refine dd_Rn.sub 2 (pc := 19) (ls := [.ref 148, .int a1, .int a2, .int a3]) (st := [.int a3, .ref 148]) (M := sM Ln I L c s) (x := m_X11_isIn) (as := [.ref 148, .int a3]) (rest := []) rfl rfl rfl rfl ?_
    show dd_Rn (e + 15) m_X11_isIn (0, [.ref 148, .int a3], [], sM Ln I L c s) _
    refine dd_Rn.sub 3 (pc := 3) (ls := [.ref 148, .int a3]) (st := [.int 3, .int a3, .ref 148]) (M := sM Ln I L c s) (x := m_X11_of) (as := [.ref 148, .int a3, .int 3]) (rest := []) rfl rfl rfl rfl ?_
    show dd_Rn (e + 14) m_X11_of (0, [.ref 148, .int a3, .int 3], [], sM Ln I L c s) _
    refine dd_Rn.sub 4 (pc := 6) (ls := [.ref 148, .int a3, .int 3]) (st := [.int 3, .int a3, .ref 149]) (M := sM Ln I L c s) (x := m_X11_at) (as := [.int a3, .int 3]) (rest := [.ref 149]) rfl rfl rfl rfl ?_
    show dd_Rn (e + 13) m_X11_at (0, [.int a3, .int 3], [], sM Ln I L c s) _
    refine dd_Rn.retK 7 (pc := 9) (ls := [.int a3, .int 3]) (st := [.int (((187 : Int32) + ((5 : Int32) * a3)) + 3)]) (M := sM Ln I L c s) (o := (none, .int (((187 : Int32) + ((5 : Int32) * a3)) + 3), sM Ln I L c s)) rfl rfl (dd_Af.ret rfl ?_) (by omega)
    show dd_Rn (e + 14) m_X11_of (9, [.ref 148, .int a3, .int 3], [.int (((187 : Int32) + ((5 : Int32) * a3)) + 3), .ref 149], sM Ln I L c s) _
    obtain ⟨hc, h⟩ := h
    refine dd_Rn.ci (fun j0 => (9, [.ref 148, .int a3, .int 3], [.int j0, .ref 149], sM Ln I L c s)) (fun j0 => (10, [.ref 148, .int a3, .int 3], [.int (I 149 (tn j0))], sM Ln I L c s)) (fun j0 => 0 ≤ j0 ∧ tn j0 < 2220) (((187 : Int32) + ((5 : Int32) * a3)) + 3) (fun j0 hc h => dd_Rn.chk 0 (c := 0 ≤ j0 ∧ tn j0 < 2220) (A := (10, [.ref 148, .int a3, .int 3], [.int (I 149 (tn j0))], sM Ln I L c s)) rfl hc h (by omega)) hc ?_
    refine dd_Rn.se (cf := (10, [.ref 148, .int a3, .int 3], [.int (I 149 (tn (((187 : Int32) + ((5 : Int32) * a3)) + 3)))], sM Ln I L c s)) ?_
    refine dd_Rn.retK 0 (pc := 10) (ls := [.ref 148, .int a3, .int 3]) (st := [.int (I 149 (tn (((187 : Int32) + ((5 : Int32) * a3)) + 3)))]) (M := sM Ln I L c s) (o := (none, .int (I 149 (tn (((187 : Int32) + ((5 : Int32) * a3)) + 3))), sM Ln I L c s)) rfl rfl (dd_Af.ret rfl ?_) (by omega)
    show dd_Rn (e + 15) m_X11_isIn (6, [.ref 148, .int a3], [.int (I 149 (tn (((187 : Int32) + ((5 : Int32) * a3)) + 3)))], sM Ln I L c s) _
    refine dd_Rn.ite 1 (c := I 149 (tn (((187 : Int32) + ((5 : Int32) * a3)) + 3)) = 1) (A := (10, [.ref 148, .int a3], [], sM Ln I L c s)) (B := (14, [.ref 148, .int a3], [], sM Ln I L c s)) rfl (fun hc => ?_) (fun hc => ?_) (by omega)
    · have h := h.1 hc
      refine dd_Rn.retK 2 (pc := 15) (ls := [.ref 148, .int a3]) (st := [.int 1]) (M := sM Ln I L c s) (o := (none, .int 1, sM Ln I L c s)) rfl rfl (dd_Af.ret rfl ?_) (by omega)
      show dd_Rn (e + 16) m_X11_pathsTo (22, [.ref 148, .int a1, .int a2, .int a3], [.int 1], sM Ln I L c s) _
      exact dd_Rn.go 3 (cf' := (9, [.ref 148, .int a1, .int a2, .int (a3 + 1)], [], sM Ln I L c s)) rfl h (by omega)
    · have h := h.2 hc
      refine dd_Rn.retK 1 (pc := 15) (ls := [.ref 148, .int a3]) (st := [.int 0]) (M := sM Ln I L c s) (o := (none, .int 0, sM Ln I L c s)) rfl rfl (dd_Af.ret rfl ?_) (by omega)
      show dd_Rn (e + 16) m_X11_pathsTo (22, [.ref 148, .int a1, .int a2, .int a3], [.int 0], sM Ln I L c s) _
      refine dd_Rn.sub 7 (pc := 33) (ls := [.ref 148, .int a1, .int a2, .int a3]) (st := [.int 0, .int a3, .ref 148, .ref 157, .int a2]) (M := sM Ln I L c s) (x := m_X11_of) (as := [.ref 148, .int a3, .int 0]) (rest := [.ref 157, .int a2]) rfl rfl rfl rfl ?_
      show dd_Rn (e + 15) m_X11_of (0, [.ref 148, .int a3, .int 0], [], sM Ln I L c s) _
      refine dd_Rn.sub 4 (pc := 6) (ls := [.ref 148, .int a3, .int 0]) (st := [.int 0, .int a3, .ref 149]) (M := sM Ln I L c s) (x := m_X11_at) (as := [.int a3, .int 0]) (rest := [.ref 149]) rfl rfl rfl rfl ?_
      show dd_Rn (e + 14) m_X11_at (0, [.int a3, .int 0], [], sM Ln I L c s) _
      refine dd_Rn.retK 7 (pc := 9) (ls := [.int a3, .int 0]) (st := [.int (((187 : Int32) + ((5 : Int32) * a3)) + 0)]) (M := sM Ln I L c s) (o := (none, .int (((187 : Int32) + ((5 : Int32) * a3)) + 0), sM Ln I L c s)) rfl rfl (dd_Af.ret rfl ?_) (by omega)
      show dd_Rn (e + 15) m_X11_of (9, [.ref 148, .int a3, .int 0], [.int (((187 : Int32) + ((5 : Int32) * a3)) + 0), .ref 149], sM Ln I L c s) _
      obtain ⟨hc, h⟩ := h
      refine dd_Rn.ci (fun j0 => (9, [.ref 148, .int a3, .int 0], [.int j0, .ref 149], sM Ln I L c s)) (fun j0 => (10, [.ref 148, .int a3, .int 0], [.int (I 149 (tn j0))], sM Ln I L c s)) (fun j0 => 0 ≤ j0 ∧ tn j0 < 2220) (((187 : Int32) + ((5 : Int32) * a3)) + 0) (fun j0 hc h => dd_Rn.chk 0 (c := 0 ≤ j0 ∧ tn j0 < 2220) (A := (10, [.ref 148, .int a3, .int 0], [.int (I 149 (tn j0))], sM Ln I L c s)) rfl hc h (by omega)) hc ?_
      refine dd_Rn.se (cf := (10, [.ref 148, .int a3, .int 0], [.int (I 149 (tn (((187 : Int32) + ((5 : Int32) * a3)) + 0)))], sM Ln I L c s)) ?_
      refine dd_Rn.retK 0 (pc := 10) (ls := [.ref 148, .int a3, .int 0]) (st := [.int (I 149 (tn (((187 : Int32) + ((5 : Int32) * a3)) + 0)))]) (M := sM Ln I L c s) (o := (none, .int (I 149 (tn (((187 : Int32) + ((5 : Int32) * a3)) + 0))), sM Ln I L c s)) rfl rfl (dd_Af.ret rfl ?_) (by omega)
      show dd_Rn (e + 16) m_X11_pathsTo (36, [.ref 148, .int a1, .int a2, .int a3], [.int (I 149 (tn (((187 : Int32) + ((5 : Int32) * a3)) + 0))), .ref 157, .int a2], sM Ln I L c s) _
      obtain ⟨hc, h⟩ := h
      refine dd_Rn.ci (fun j0 => (36, [.ref 148, .int a1, .int a2, .int a3], [.int j0, .ref 157, .int a2], sM Ln I L c s)) (fun j0 => (37, [.ref 148, .int a1, .int a2, .int a3], [.int (I 157 (tn j0)), .int a2], sM Ln I L c s)) (fun j0 => 0 ≤ j0 ∧ tn j0 < 64) (I 149 (tn (((187 : Int32) + ((5 : Int32) * a3)) + 0))) (fun j0 hc h => dd_Rn.chk 0 (c := 0 ≤ j0 ∧ tn j0 < 64) (A := (37, [.ref 148, .int a1, .int a2, .int a3], [.int (I 157 (tn j0)), .int a2], sM Ln I L c s)) rfl hc h (by omega)) hc ?_
      refine dd_Rn.se (cf := (37, [.ref 148, .int a1, .int a2, .int a3], [.int (I 157 (tn (I 149 (tn (((187 : Int32) + ((5 : Int32) * a3)) + 0))))), .int a2], sM Ln I L c s)) ?_
      refine dd_Rn.ite 1 (c := I 157 (tn (I 149 (tn (((187 : Int32) + ((5 : Int32) * a3)) + 0)))) = (-1)) (A := (41, [.ref 148, .int a1, .int a2, .int a3], [.int a2], sM Ln I L c s)) (B := (47, [.ref 148, .int a1, .int a2, .int a3], [.int a2], sM Ln I L c s)) rfl (fun hc => ?_) (fun hc => ?_) (by omega)
      · have h := h.1 hc
        exact dd_Rn.go 6 (cf' := (9, [.ref 148, .int a1, .int (a2 + 1000000), .int (a3 + 1)], [], sM Ln I L c s)) rfl h (by omega)
      · have h := h.2 hc
        refine dd_Rn.sub 5 (pc := 54) (ls := [.ref 148, .int a1, .int a2, .int a3]) (st := [.int 0, .int a3, .ref 148, .ref 157, .int a2]) (M := sM Ln I L c s) (x := m_X11_of) (as := [.ref 148, .int a3, .int 0]) (rest := [.ref 157, .int a2]) rfl rfl rfl rfl ?_
        show dd_Rn (e + 15) m_X11_of (0, [.ref 148, .int a3, .int 0], [], sM Ln I L c s) _
        refine dd_Rn.sub 4 (pc := 6) (ls := [.ref 148, .int a3, .int 0]) (st := [.int 0, .int a3, .ref 149]) (M := sM Ln I L c s) (x := m_X11_at) (as := [.int a3, .int 0]) (rest := [.ref 149]) rfl rfl rfl rfl ?_
        show dd_Rn (e + 14) m_X11_at (0, [.int a3, .int 0], [], sM Ln I L c s) _
        refine dd_Rn.retK 7 (pc := 9) (ls := [.int a3, .int 0]) (st := [.int (((187 : Int32) + ((5 : Int32) * a3)) + 0)]) (M := sM Ln I L c s) (o := (none, .int (((187 : Int32) + ((5 : Int32) * a3)) + 0), sM Ln I L c s)) rfl rfl (dd_Af.ret rfl ?_) (by omega)
        show dd_Rn (e + 15) m_X11_of (9, [.ref 148, .int a3, .int 0], [.int (((187 : Int32) + ((5 : Int32) * a3)) + 0), .ref 149], sM Ln I L c s) _
        obtain ⟨hc, h⟩ := h
        refine dd_Rn.ci (fun j0 => (9, [.ref 148, .int a3, .int 0], [.int j0, .ref 149], sM Ln I L c s)) (fun j0 => (10, [.ref 148, .int a3, .int 0], [.int (I 149 (tn j0))], sM Ln I L c s)) (fun j0 => 0 ≤ j0 ∧ tn j0 < 2220) (((187 : Int32) + ((5 : Int32) * a3)) + 0) (fun j0 hc h => dd_Rn.chk 0 (c := 0 ≤ j0 ∧ tn j0 < 2220) (A := (10, [.ref 148, .int a3, .int 0], [.int (I 149 (tn j0))], sM Ln I L c s)) rfl hc h (by omega)) hc ?_
        refine dd_Rn.se (cf := (10, [.ref 148, .int a3, .int 0], [.int (I 149 (tn (((187 : Int32) + ((5 : Int32) * a3)) + 0)))], sM Ln I L c s)) ?_
        refine dd_Rn.retK 0 (pc := 10) (ls := [.ref 148, .int a3, .int 0]) (st := [.int (I 149 (tn (((187 : Int32) + ((5 : Int32) * a3)) + 0)))]) (M := sM Ln I L c s) (o := (none, .int (I 149 (tn (((187 : Int32) + ((5 : Int32) * a3)) + 0))), sM Ln I L c s)) rfl rfl (dd_Af.ret rfl ?_) (by omega)
        show dd_Rn (e + 16) m_X11_pathsTo (57, [.ref 148, .int a1, .int a2, .int a3], [.int (I 149 (tn (((187 : Int32) + ((5 : Int32) * a3)) + 0))), .ref 157, .int a2], sM Ln I L c s) _
        obtain ⟨hc, h⟩ := h
        refine dd_Rn.ci (fun j0 => (57, [.ref 148, .int a1, .int a2, .int a3], [.int j0, .ref 157, .int a2], sM Ln I L c s)) (fun j0 => (58, [.ref 148, .int a1, .int a2, .int a3], [.int (I 157 (tn j0)), .int a2], sM Ln I L c s)) (fun j0 => 0 ≤ j0 ∧ tn j0 < 64) (I 149 (tn (((187 : Int32) + ((5 : Int32) * a3)) + 0))) (fun j0 hc h => dd_Rn.chk 0 (c := 0 ≤ j0 ∧ tn j0 < 64) (A := (58, [.ref 148, .int a1, .int a2, .int a3], [.int (I 157 (tn j0)), .int a2], sM Ln I L c s)) rfl hc h (by omega)) hc ?_
        refine dd_Rn.se (cf := (58, [.ref 148, .int a1, .int a2, .int a3], [.int (I 157 (tn (I 149 (tn (((187 : Int32) + ((5 : Int32) * a3)) + 0))))), .int a2], sM Ln I L c s)) ?_
        exact dd_Rn.go 4 (cf' := (9, [.ref 148, .int a1, .int (a2 + (I 157 (tn (I 149 (tn (((187 : Int32) + ((5 : Int32) * a3)) + 0)))))), .int (a3 + 1)], [], sM Ln I L c s)) rfl h (by omega)

theorem w_X11_should_0 {Ln d c s : Nat} {I : Nat → Nat → Int32} {L : Nat → Nat → Int64} {Q : dd_O → Prop} (hd : 28 ≤ d) (h : dd_Rn d m_X11_should (13, [.ref 148, .int (-1), .int 1000000, .int 0, .null], [], sM Ln (dd_u I 148 (upd (I 148) 0 0)) L c s) Q) : dd_Ev d m_X11_should [.ref 148] (sM Ln I L c s) Q := by
  obtain ⟨e, rfl⟩ : ∃ e, d = e + 16 := ⟨d - 16, by omega⟩
  show dd_Rn (e + 16) m_X11_should (0, [.ref 148, .null, .null, .null, .null], [], sM Ln I L c s) Q
  exact dd_Rn.go 9 (cf' := (13, [.ref 148, .int (-1), .int 1000000, .int 0, .null], [], sM Ln (dd_u I 148 (upd (I 148) 0 0)) L c s)) rfl h (by omega)

theorem w_X11_should_13 {Ln d c s : Nat} {I : Nat → Nat → Int32} {L : Nat → Nat → Int64} {Q : dd_O → Prop} {a1 a2 a3 : Int32} {a4 : Value} (hd : 28 ≤ d) (h : (((64 : Int32) ≤ a3 → Q (none, .int a1, sM Ln I L c s)) ∧ (¬ ((64 : Int32) ≤ a3) → dd_Ev (d - 1) m_X11_outOnes [.ref 148] (sM Ln I L c s) (dd_RI Ln c s (fun x1 I1 L1 => ((x1 = 0 → Q (none, .int a1, sM Ln I1 L1 c s)) ∧ (¬ (x1 = 0) → ((0 ≤ (11 : Int32) + a3 ∧ tn ((11 : Int32) + a3) < 2220) ∧ ((I1 149 (tn ((11 : Int32) + a3)) = 1 → ((a2 ≤ 1000000 → dd_Rn d m_X11_should (13, [.ref 148, .int a1, .int (if (1000000 : Int32) < a2 then 1000000 else a2), .int (a3 + 1), .int 1000000], [], sM Ln I1 L1 c s) Q) ∧ (¬ (a2 ≤ 1000000) → dd_Rn d m_X11_should (13, [.ref 148, .int a3, .int (if (1000000 : Int32) < a2 then 1000000 else a2), .int (a3 + 1), .int 1000000], [], sM Ln I1 L1 c s) Q))) ∧ (¬ (I1 149 (tn ((11 : Int32) + a3)) = 1) → dd_Ev (d - 1) m_X11_pathsTo [.ref 148, .int a3] (sM Ln I1 L1 c s) (dd_RI Ln c s (fun x2 I2 L2 => ((a2 ≤ x2 → dd_Rn d m_X11_should (13, [.ref 148, .int a1, .int (if x2 < a2 then x2 else a2), .int (a3 + 1), .int x2], [], sM Ln I2 L2 c s) Q) ∧ (¬ (a2 ≤ x2) → dd_Rn d m_X11_should (13, [.ref 148, .int a3, .int (if x2 < a2 then x2 else a2), .int (a3 + 1), .int x2], [], sM Ln I2 L2 c s) Q)))))))))))))) : dd_Rn d m_X11_should (13, [.ref 148, .int a1, .int a2, .int a3, a4], [], sM Ln I L c s) Q := by
  obtain ⟨e, rfl⟩ : ∃ e, d = e + 16 := ⟨d - 16, by omega⟩
  refine dd_Rn.ite 2 (c := (64 : Int32) ≤ a3) (A := (72, [.ref 148, .int a1, .int a2, .int a3, a4], [], sM Ln I L c s)) (B := (19, [.ref 148, .int a1, .int a2, .int a3, a4], [], sM Ln I L c s)) rfl (fun hc => ?_) (fun hc => ?_) (by omega)
  · have h := h.1 hc
    exact dd_Rn.retK 1 (pc := 73) (ls := [.ref 148, .int a1, .int a2, .int a3, a4]) (st := [.int a1]) (M := sM Ln I L c s) (o := (none, .int a1, sM Ln I L c s)) rfl rfl h (by omega)
  · have h := h.2 hc
    refine dd_Rn.cI 1 (pc := 20) (ls := [.ref 148, .int a1, .int a2, .int a3, a4]) (st := [.ref 148]) (x := m_X11_outOnes) (as := [.ref 148]) (rest := []) rfl rfl rfl rfl h ?_
    intro x1 I1 L1 h
    show dd_Rn (e + 16) m_X11_should (23, [.ref 148, .int a1, .int a2, .int a3, a4], [.int x1], sM Ln I1 L1 c s) _
    refine dd_Rn.ite 0 (c := x1 = 0) (A := (72, [.ref 148, .int a1, .int a2, .int a3, a4], [], sM Ln I1 L1 c s)) (B := (26, [.ref 148, .int a1, .int a2, .int a3, a4], [], sM Ln I1 L1 c s)) rfl (fun hc => ?_) (fun hc => ?_) (by omega)
    · have h := h.1 hc
      exact dd_Rn.retK 1 (pc := 73) (ls := [.ref 148, .int a1, .int a2, .int a3, a4]) (st := [.int a1]) (M := sM Ln I1 L1 c s) (o := (none, .int a1, sM Ln I1 L1 c s)) rfl rfl h (by omega)
    · have h := h.2 hc
      refine dd_Rn.sub 2 (pc := 28) (ls := [.ref 148, .int a1, .int a2, .int a3, a4]) (st := [.int a3, .ref 148]) (M := sM Ln I1 L1 c s) (x := m_X11_hasTrees) (as := [.ref 148, .int a3]) (rest := []) rfl rfl rfl rfl ?_
      show dd_Rn (e + 15) m_X11_hasTrees (0, [.ref 148, .int a3], [], sM Ln I1 L1 c s) _
      obtain ⟨hc, h⟩ := h
      refine dd_Rn.go 5 (cf' := (8, [.ref 148, .int a3], [.int ((11 : Int32) + a3), .ref 149], sM Ln I1 L1 c s)) rfl ?_ (by omega)
      refine dd_Rn.ci (fun j0 => (8, [.ref 148, .int a3], [.int j0, .ref 149], sM Ln I1 L1 c s)) (fun j0 => (9, [.ref 148, .int a3], [.int (I1 149 (tn j0))], sM Ln I1 L1 c s)) (fun j0 => 0 ≤ j0 ∧ tn j0 < 2220) ((11 : Int32) + a3) (fun j0 hc h => dd_Rn.chk 0 (c := 0 ≤ j0 ∧ tn j0 < 2220) (A := (9, [.ref 148, .int a3], [.int (I1 149 (tn j0))], sM Ln I1 L1 c s)) rfl hc h (by omega)) hc ?_
      refine dd_Rn.se (cf := (9, [.ref 148, .int a3], [.int (I1 149 (tn ((11 : Int32) + a3)))], sM Ln I1 L1 c s)) ?_
      refine dd_Rn.ite 1 (c := I1 149 (tn ((11 : Int32) + a3)) = 1) (A := (13, [.ref 148, .int a3], [], sM Ln I1 L1 c s)) (B := (17, [.ref 148, .int a3], [], sM Ln I1 L1 c s)) rfl (fun hc => ?_) (fun hc => ?_) (by omega)
      · have h := h.1 hc
        refine dd_Rn.retK 2 (pc := 18) (ls := [.ref 148, .int a3]) (st := [.int 1]) (M := sM Ln I1 L1 c s) (o := (none, .int 1, sM Ln I1 L1 c s)) rfl rfl (dd_Af.ret rfl ?_) (by omega)
        show dd_Rn (e + 16) m_X11_should (31, [.ref 148, .int a1, .int a2, .int a3, a4], [.int 1], sM Ln I1 L1 c s) _
        refine dd_Rn.ite 6 (c := a2 ≤ 1000000) (A := (57, [.ref 148, .int a1, .int a2, .int a3, .int 1000000], [], sM Ln I1 L1 c s)) (B := (53, [.ref 148, .int a1, .int a2, .int a3, .int 1000000], [], sM Ln I1 L1 c s)) rfl (fun hc => ?_) (fun hc => ?_) (by omega)
        · have h := h.1 hc
          exact dd_Rn.go 8 (cf' := (13, [.ref 148, .int a1, .int (if (1000000 : Int32) < a2 then 1000000 else a2), .int (a3 + 1), .int 1000000], [], sM Ln I1 L1 c s)) rfl h (by omega)
        · have h := h.2 hc
          exact dd_Rn.go 9 (cf' := (13, [.ref 148, .int a3, .int (if (1000000 : Int32) < a2 then 1000000 else a2), .int (a3 + 1), .int 1000000], [], sM Ln I1 L1 c s)) rfl h (by omega)
      · have h := h.2 hc
        refine dd_Rn.retK 1 (pc := 18) (ls := [.ref 148, .int a3]) (st := [.int 0]) (M := sM Ln I1 L1 c s) (o := (none, .int 0, sM Ln I1 L1 c s)) rfl rfl (dd_Af.ret rfl ?_) (by omega)
        show dd_Rn (e + 16) m_X11_should (31, [.ref 148, .int a1, .int a2, .int a3, a4], [.int 0], sM Ln I1 L1 c s) _
        refine dd_Rn.cI 3 (pc := 42) (ls := [.ref 148, .int a1, .int a2, .int a3, a4]) (st := [.int a3, .ref 148]) (x := m_X11_pathsTo) (as := [.ref 148, .int a3]) (rest := []) rfl rfl rfl rfl h ?_
        intro x2 I2 L2 h
        show dd_Rn (e + 16) m_X11_should (45, [.ref 148, .int a1, .int a2, .int a3, a4], [.int x2], sM Ln I2 L2 c s) _
        refine dd_Rn.ite 3 (c := a2 ≤ x2) (A := (57, [.ref 148, .int a1, .int a2, .int a3, .int x2], [], sM Ln I2 L2 c s)) (B := (53, [.ref 148, .int a1, .int a2, .int a3, .int x2], [], sM Ln I2 L2 c s)) rfl (fun hc => ?_) (fun hc => ?_) (by omega)
        · have h := h.1 hc
          exact dd_Rn.go 8 (cf' := (13, [.ref 148, .int a1, .int (if x2 < a2 then x2 else a2), .int (a3 + 1), .int x2], [], sM Ln I2 L2 c s)) rfl h (by omega)
        · have h := h.2 hc
          exact dd_Rn.go 9 (cf' := (13, [.ref 148, .int a3, .int (if x2 < a2 then x2 else a2), .int (a3 + 1), .int x2], [], sM Ln I2 L2 c s)) rfl h (by omega)

theorem w_X11_clearings_0 {Ln d c s : Nat} {I : Nat → Nat → Int32} {L : Nat → Nat → Int64} {Q : dd_O → Prop} (hd : 28 ≤ d) (h : dd_Rn d m_X11_clearings (9, [.ref 148, .int 0, .int 0, .null, .null], [], sM Ln (dd_u I 148 (upd (I 148) 0 0)) L c s) Q) : dd_Ev d m_X11_clearings [.ref 148] (sM Ln I L c s) Q := by
  obtain ⟨e, rfl⟩ : ∃ e, d = e + 16 := ⟨d - 16, by omega⟩
  show dd_Rn (e + 16) m_X11_clearings (0, [.ref 148, .null, .null, .null, .null], [], sM Ln I L c s) Q
  exact dd_Rn.go 7 (cf' := (9, [.ref 148, .int 0, .int 0, .null, .null], [], sM Ln (dd_u I 148 (upd (I 148) 0 0)) L c s)) rfl h (by omega)

theorem w_X11_clearings_9 {Ln d c s : Nat} {I : Nat → Nat → Int32} {L : Nat → Nat → Int64} {Q : dd_O → Prop} {a1 a2 : Int32} {a3 a4 : Value} (hd : 28 ≤ d) (h : (((64 : Int32) ≤ a2 → Q (none, .int a1, sM Ln I L c s)) ∧ (¬ ((64 : Int32) ≤ a2) → dd_Ev (d - 1) m_X11_looksAround [.ref 148, .int a2] (sM Ln I L c s) (dd_RV Ln c s (fun I1 L1 => ((I1 148 21 ≤ 0 → dd_Rn d m_X11_clearings (36, [.ref 148, .int a1, .int a2, .int 0, .int 0], [], sM Ln I1 L1 c s) Q) ∧ (¬ (I1 148 21 ≤ 0) → dd_Rn d m_X11_clearings (36, [.ref 148, .int a1, .int a2, .int 1, .int 0], [], sM Ln I1 L1 c s) Q))))))) : dd_Rn d m_X11_clearings (9, [.ref 148, .int a1, .int a2, a3, a4], [], sM Ln I L c s) Q := by
  obtain ⟨e, rfl⟩ : ∃ e, d = e + 16 := ⟨d - 16, by omega⟩
  refine dd_Rn.ite 2 (c := (64 : Int32) ≤ a2) (A := (90, [.ref 148, .int a1, .int a2, a3, a4], [], sM Ln I L c s)) (B := (15, [.ref 148, .int a1, .int a2, a3, a4], [], sM Ln I L c s)) rfl (fun hc => ?_) (fun hc => ?_) (by omega)
  · have h := h.1 hc
    exact dd_Rn.retK 1 (pc := 91) (ls := [.ref 148, .int a1, .int a2, a3, a4]) (st := [.int a1]) (M := sM Ln I L c s) (o := (none, .int a1, sM Ln I L c s)) rfl rfl h (by omega)
  · have h := h.2 hc
    refine dd_Rn.cV 2 (pc := 17) (ls := [.ref 148, .int a1, .int a2, a3, a4]) (st := [.int a2, .ref 148]) (x := m_X11_looksAround) (as := [.ref 148, .int a2]) (rest := []) rfl rfl rfl rfl h ?_
    intro I1 L1 h
    show dd_Rn (e + 16) m_X11_clearings (20, [.ref 148, .int a1, .int a2, a3, a4], [], sM Ln I1 L1 c s) _
    refine dd_Rn.ite 2 (c := I1 148 21 ≤ 0) (A := (31, [.ref 148, .int a1, .int a2, a3, a4], [], sM Ln I1 L1 c s)) (B := (27, [.ref 148, .int a1, .int a2, a3, a4], [], sM Ln I1 L1 c s)) rfl (fun hc => ?_) (fun hc => ?_) (by omega)
    · have h := h.1 hc
      exact dd_Rn.go 4 (cf' := (36, [.ref 148, .int a1, .int a2, .int 0, .int 0], [], sM Ln I1 L1 c s)) rfl h (by omega)
    · have h := h.2 hc
      exact dd_Rn.go 5 (cf' := (36, [.ref 148, .int a1, .int a2, .int 1, .int 0], [], sM Ln I1 L1 c s)) rfl h (by omega)

theorem w_X11_clearings_36 {Ln d c s : Nat} {I : Nat → Nat → Int32} {L : Nat → Nat → Int64} {Q : dd_O → Prop} {a1 a2 a3 a4 : Int32} (hd : 28 ≤ d) (h : ((I 148 21 ≤ a4 → ((a3 = 0 → dd_Rn d m_X11_clearings (9, [.ref 148, .int (a1 + 0), .int (a2 + 1), .int a3, .int a4], [], sM Ln I L c s) Q) ∧ (¬ (a3 = 0) → dd_Rn d m_X11_clearings (9, [.ref 148, .int (a1 + 1), .int (a2 + 1), .int a3, .int a4], [], sM Ln I L c s) Q))) ∧ (¬ (I 148 21 ≤ a4) → ((a3 = 0 → dd_Rn d m_X11_clearings (36, [.ref 148, .int a1, .int a2, .int 0, .int (a4 + 1)], [], sM Ln I L c s) Q) ∧ (¬ (a3 = 0) → ((0 ≤ a4 ∧ tn a4 < 64) ∧ ((I 158 (tn a4) < a2 → dd_Rn d m_X11_clearings (36, [.ref 148, .int a1, .int a2, .int 0, .int (a4 + 1)], [], sM Ln I L c s) Q) ∧ (¬ (I 158 (tn a4) < a2) → dd_Rn d m_X11_clearings (36, [.ref 148, .int a1, .int a2, .int 1, .int (a4 + 1)], [], sM Ln I L c s) Q)))))))) : dd_Rn d m_X11_clearings (36, [.ref 148, .int a1, .int a2, .int a3, .int a4], [], sM Ln I L c s) Q := by
  obtain ⟨e, rfl⟩ : ∃ e, d = e + 16 := ⟨d - 16, by omega⟩
  refine dd_Rn.ite 3 (c := I 148 21 ≤ a4) (A := (72, [.ref 148, .int a1, .int a2, .int a3, .int a4], [], sM Ln I L c s)) (B := (45, [.ref 148, .int a1, .int a2, .int a3, .int a4], [], sM Ln I L c s)) rfl (fun hc => ?_) (fun hc => ?_) (by omega)
  · have h := h.1 hc
    refine dd_Rn.ite 2 (c := a3 = 0) (A := (81, [.ref 148, .int a1, .int a2, .int a3, .int a4], [.int a1], sM Ln I L c s)) (B := (77, [.ref 148, .int a1, .int a2, .int a3, .int a4], [.int a1], sM Ln I L c s)) rfl (fun hc => ?_) (fun hc => ?_) (by omega)
    · have h := h.1 hc
      exact dd_Rn.go 5 (cf' := (9, [.ref 148, .int (a1 + 0), .int (a2 + 1), .int a3, .int a4], [], sM Ln I L c s)) rfl h (by omega)
    · have h := h.2 hc
      exact dd_Rn.go 6 (cf' := (9, [.ref 148, .int (a1 + 1), .int (a2 + 1), .int a3, .int a4], [], sM Ln I L c s)) rfl h (by omega)
  · have h := h.2 hc
    refine dd_Rn.ite 1 (c := a3 = 0) (A := (64, [.ref 148, .int a1, .int a2, .int a3, .int a4], [], sM Ln I L c s)) (B := (49, [.ref 148, .int a1, .int a2, .int a3, .int a4], [], sM Ln I L c s)) rfl (fun hc => ?_) (fun hc => ?_) (by omega)
    · have h := h.1 hc
      exact dd_Rn.go 4 (cf' := (36, [.ref 148, .int a1, .int a2, .int 0, .int (a4 + 1)], [], sM Ln I L c s)) rfl h (by omega)
    · have h := h.2 hc
      obtain ⟨hc, h⟩ := h
      refine dd_Rn.chk 3 (c := 0 ≤ a4 ∧ tn a4 < 64) (A := (56, [.ref 148, .int a1, .int a2, .int a3, .int a4], [.int (I 158 (tn a4))], sM Ln I L c s)) rfl hc ?_ (by omega)
      refine dd_Rn.ite 1 (c := I 158 (tn a4) < a2) (A := (64, [.ref 148, .int a1, .int a2, .int a3, .int a4], [], sM Ln I L c s)) (B := (60, [.ref 148, .int a1, .int a2, .int a3, .int a4], [], sM Ln I L c s)) rfl (fun hc => ?_) (fun hc => ?_) (by omega)
      · have h := h.1 hc
        exact dd_Rn.go 4 (cf' := (36, [.ref 148, .int a1, .int a2, .int 0, .int (a4 + 1)], [], sM Ln I L c s)) rfl h (by omega)
      · have h := h.2 hc
        exact dd_Rn.go 5 (cf' := (36, [.ref 148, .int a1, .int a2, .int 1, .int (a4 + 1)], [], sM Ln I L c s)) rfl h (by omega)

theorem w_X11_withPath_0 {Ln d c s : Nat} {I : Nat → Nat → Int32} {L : Nat → Nat → Int64} {Q : dd_O → Prop} (hd : 28 ≤ d) (h : dd_Ev (d - 1) m_X11_looksAround [.ref 148, .int (I 149 4)] (sM Ln I L c s) (dd_RV Ln c s (fun I1 L1 => dd_Rn d m_X11_withPath (14, [.ref 148, .int 0, .int 0], [], sM Ln I1 L1 c s) Q))) : dd_Ev d m_X11_withPath [.ref 148] (sM Ln I L c s) Q := by
  obtain ⟨e, rfl⟩ : ∃ e, d = e + 16 := ⟨d - 16, by omega⟩
  show dd_Rn (e + 16) m_X11_withPath (0, [.ref 148, .null, .null], [], sM Ln I L c s) Q
  refine dd_Rn.cV 5 (pc := 7) (ls := [.ref 148, .null, .null]) (st := [.int (I 149 4), .ref 148]) (x := m_X11_looksAround) (as := [.ref 148, .int (I 149 4)]) (rest := []) rfl rfl rfl rfl h ?_
  intro I1 L1 h
  show dd_Rn (e + 16) m_X11_withPath (10, [.ref 148, .null, .null], [], sM Ln I1 L1 c s) _
  exact dd_Rn.go 4 (cf' := (14, [.ref 148, .int 0, .int 0], [], sM Ln I1 L1 c s)) rfl h (by omega)

theorem w_X11_withPath_14 {Ln d c s : Nat} {I : Nat → Nat → Int32} {L : Nat → Nat → Int64} {Q : dd_O → Prop} {a1 a2 : Int32} (hd : 28 ≤ d) (h : ((I 149 1 ≤ a2 → Q (none, .int a1, sM Ln I L c s)) ∧ (¬ (I 149 1 ≤ a2) → ((0 ≤ ((187 : Int32) + ((5 : Int32) * a2)) + 3 ∧ tn (((187 : Int32) + ((5 : Int32) * a2)) + 3) < 2220) ∧ ((I 149 (tn (((187 : Int32) + ((5 : Int32) * a2)) + 3)) = 1 → dd_Rn d m_X11_withPath (14, [.ref 148, .int (a1 ||| 0), .int (a2 + 1)], [], sM Ln I L c s) Q) ∧ (¬ (I 149 (tn (((187 : Int32) + ((5 : Int32) * a2)) + 3)) = 1) → ((0 ≤ ((187 : Int32) + ((5 : Int32) * a2)) + 0 ∧ tn (((187 : Int32) + ((5 : Int32) * a2)) + 0) < 2220) ∧ ((0 ≤ I 149 (tn (((187 : Int32) + ((5 : Int32) * a2)) + 0)) ∧ tn (I 149 (tn (((187 : Int32) + ((5 : Int32) * a2)) + 0))) < 64) ∧ ((I 157 (tn (I 149 (tn (((187 : Int32) + ((5 : Int32) * a2)) + 0)))) = (-1) → dd_Rn d m_X11_withPath (14, [.ref 148, .int (a1 ||| 0), .int (a2 + 1)], [], sM Ln I L c s) Q) ∧ (¬ (I 157 (tn (I 149 (tn (((187 : Int32) + ((5 : Int32) * a2)) + 0)))) = (-1)) → dd_Rn d m_X11_withPath (14, [.ref 148, .int (a1 ||| ((1 : Int32) <<< (a2 &&& 31))), .int (a2 + 1)], [], sM Ln I L c s) Q)))))))))) : dd_Rn d m_X11_withPath (14, [.ref 148, .int a1, .int a2], [], sM Ln I L c s) Q := by
  obtain ⟨e, rfl⟩ : ∃ e, d = e + 16 := ⟨d - 16, by omega⟩
  refine dd_Rn.sub 2 (pc := 16) (ls := [.ref 148, .int a1, .int a2]) (st := [.ref 148, .int a2]) (M := sM Ln I L c s) (x := m_X11_boys) (as := [.ref 148]) (rest := [.int a2]) rfl rfl rfl rfl ?_
  show dd_Rn (e + 15) m_X11_boys (0, [.ref 148], [], sM Ln I L c s) _
  refine dd_Rn.retK 4 (pc := 6) (ls := [.ref 148]) (st := [.int (I 149 1)]) (M := sM Ln I L c s) (o := (none, .int (I 149 1), sM Ln I L c s)) rfl rfl (dd_Af.ret rfl ?_) (by omega)
  show dd_Rn (e + 16) m_X11_withPath (19, [.ref 148, .int a1, .int a2], [.int (I 149 1), .int a2], sM Ln I L c s) _
  refine dd_Rn.ite 0 (c := I 149 1 ≤ a2) (A := (61, [.ref 148, .int a1, .int a2], [], sM Ln I L c s)) (B := (22, [.ref 148, .int a1, .int a2], [], sM Ln I L c s)) rfl (fun hc => ?_) (fun hc => ?_) (by omega)
  · have h := h.1 hc
    exact dd_Rn.retK 1 (pc := 62) (ls := [.ref 148, .int a1, .int a2]) (st := [.int a1]) (M := sM Ln I L c s) (o := (none, .int a1, sM Ln I L c s)) rfl rfl h (by omega)
  · have h := h.2 hc
    refine dd_Rn.sub 3 (pc := 25) (ls := [.ref 148, .int a1, .int a2]) (st := [.int a2, .ref 148, .int a1]) (M := sM Ln I L c s) (x := m_X11_isIn) (as := [.ref 148, .int a2]) (rest := [.int a1]) rfl rfl rfl rfl ?_
    show dd_Rn (e + 15) m_X11_isIn (0, [.ref 148, .int a2], [], sM Ln I L c s) _
    refine dd_Rn.sub 3 (pc := 3) (ls := [.ref 148, .int a2]) (st := [.int 3, .int a2, .ref 148]) (M := sM Ln I L c s) (x := m_X11_of) (as := [.ref 148, .int a2, .int 3]) (rest := []) rfl rfl rfl rfl ?_
    show dd_Rn (e + 14) m_X11_of (0, [.ref 148, .int a2, .int 3], [], sM Ln I L c s) _
    refine dd_Rn.sub 4 (pc := 6) (ls := [.ref 148, .int a2, .int 3]) (st := [.int 3, .int a2, .ref 149]) (M := sM Ln I L c s) (x := m_X11_at) (as := [.int a2, .int 3]) (rest := [.ref 149]) rfl rfl rfl rfl ?_
    show dd_Rn (e + 13) m_X11_at (0, [.int a2, .int 3], [], sM Ln I L c s) _
    refine dd_Rn.retK 7 (pc := 9) (ls := [.int a2, .int 3]) (st := [.int (((187 : Int32) + ((5 : Int32) * a2)) + 3)]) (M := sM Ln I L c s) (o := (none, .int (((187 : Int32) + ((5 : Int32) * a2)) + 3), sM Ln I L c s)) rfl rfl (dd_Af.ret rfl ?_) (by omega)
    show dd_Rn (e + 14) m_X11_of (9, [.ref 148, .int a2, .int 3], [.int (((187 : Int32) + ((5 : Int32) * a2)) + 3), .ref 149], sM Ln I L c s) _
    obtain ⟨hc, h⟩ := h
    refine dd_Rn.ci (fun j0 => (9, [.ref 148, .int a2, .int 3], [.int j0, .ref 149], sM Ln I L c s)) (fun j0 => (10, [.ref 148, .int a2, .int 3], [.int (I 149 (tn j0))], sM Ln I L c s)) (fun j0 => 0 ≤ j0 ∧ tn j0 < 2220) (((187 : Int32) + ((5 : Int32) * a2)) + 3) (fun j0 hc h => dd_Rn.chk 0 (c := 0 ≤ j0 ∧ tn j0 < 2220) (A := (10, [.ref 148, .int a2, .int 3], [.int (I 149 (tn j0))], sM Ln I L c s)) rfl hc h (by omega)) hc ?_
    refine dd_Rn.se (cf := (10, [.ref 148, .int a2, .int 3], [.int (I 149 (tn (((187 : Int32) + ((5 : Int32) * a2)) + 3)))], sM Ln I L c s)) ?_
    refine dd_Rn.retK 0 (pc := 10) (ls := [.ref 148, .int a2, .int 3]) (st := [.int (I 149 (tn (((187 : Int32) + ((5 : Int32) * a2)) + 3)))]) (M := sM Ln I L c s) (o := (none, .int (I 149 (tn (((187 : Int32) + ((5 : Int32) * a2)) + 3))), sM Ln I L c s)) rfl rfl (dd_Af.ret rfl ?_) (by omega)
    show dd_Rn (e + 15) m_X11_isIn (6, [.ref 148, .int a2], [.int (I 149 (tn (((187 : Int32) + ((5 : Int32) * a2)) + 3)))], sM Ln I L c s) _
    refine dd_Rn.ite 1 (c := I 149 (tn (((187 : Int32) + ((5 : Int32) * a2)) + 3)) = 1) (A := (10, [.ref 148, .int a2], [], sM Ln I L c s)) (B := (14, [.ref 148, .int a2], [], sM Ln I L c s)) rfl (fun hc => ?_) (fun hc => ?_) (by omega)
    · have h := h.1 hc
      refine dd_Rn.retK 2 (pc := 15) (ls := [.ref 148, .int a2]) (st := [.int 1]) (M := sM Ln I L c s) (o := (none, .int 1, sM Ln I L c s)) rfl rfl (dd_Af.ret rfl ?_) (by omega)
      show dd_Rn (e + 16) m_X11_withPath (28, [.ref 148, .int a1, .int a2], [.int 1, .int a1], sM Ln I L c s) _
      exact dd_Rn.go 6 (cf' := (14, [.ref 148, .int (a1 ||| 0), .int (a2 + 1)], [], sM Ln I L c s)) rfl h (by omega)
    · have h := h.2 hc
      refine dd_Rn.retK 1 (pc := 15) (ls := [.ref 148, .int a2]) (st := [.int 0]) (M := sM Ln I L c s) (o := (none, .int 0, sM Ln I L c s)) rfl rfl (dd_Af.ret rfl ?_) (by omega)
      show dd_Rn (e + 16) m_X11_withPath (28, [.ref 148, .int a1, .int a2], [.int 0, .int a1], sM Ln I L c s) _
      refine dd_Rn.sub 6 (pc := 38) (ls := [.ref 148, .int a1, .int a2]) (st := [.int 0, .int a2, .ref 148, .ref 157, .int a1]) (M := sM Ln I L c s) (x := m_X11_of) (as := [.ref 148, .int a2, .int 0]) (rest := [.ref 157, .int a1]) rfl rfl rfl rfl ?_
      show dd_Rn (e + 15) m_X11_of (0, [.ref 148, .int a2, .int 0], [], sM Ln I L c s) _
      refine dd_Rn.sub 4 (pc := 6) (ls := [.ref 148, .int a2, .int 0]) (st := [.int 0, .int a2, .ref 149]) (M := sM Ln I L c s) (x := m_X11_at) (as := [.int a2, .int 0]) (rest := [.ref 149]) rfl rfl rfl rfl ?_
      show dd_Rn (e + 14) m_X11_at (0, [.int a2, .int 0], [], sM Ln I L c s) _
      refine dd_Rn.retK 7 (pc := 9) (ls := [.int a2, .int 0]) (st := [.int (((187 : Int32) + ((5 : Int32) * a2)) + 0)]) (M := sM Ln I L c s) (o := (none, .int (((187 : Int32) + ((5 : Int32) * a2)) + 0), sM Ln I L c s)) rfl rfl (dd_Af.ret rfl ?_) (by omega)
      show dd_Rn (e + 15) m_X11_of (9, [.ref 148, .int a2, .int 0], [.int (((187 : Int32) + ((5 : Int32) * a2)) + 0), .ref 149], sM Ln I L c s) _
      obtain ⟨hc, h⟩ := h
      refine dd_Rn.ci (fun j0 => (9, [.ref 148, .int a2, .int 0], [.int j0, .ref 149], sM Ln I L c s)) (fun j0 => (10, [.ref 148, .int a2, .int 0], [.int (I 149 (tn j0))], sM Ln I L c s)) (fun j0 => 0 ≤ j0 ∧ tn j0 < 2220) (((187 : Int32) + ((5 : Int32) * a2)) + 0) (fun j0 hc h => dd_Rn.chk 0 (c := 0 ≤ j0 ∧ tn j0 < 2220) (A := (10, [.ref 148, .int a2, .int 0], [.int (I 149 (tn j0))], sM Ln I L c s)) rfl hc h (by omega)) hc ?_
      refine dd_Rn.se (cf := (10, [.ref 148, .int a2, .int 0], [.int (I 149 (tn (((187 : Int32) + ((5 : Int32) * a2)) + 0)))], sM Ln I L c s)) ?_
      refine dd_Rn.retK 0 (pc := 10) (ls := [.ref 148, .int a2, .int 0]) (st := [.int (I 149 (tn (((187 : Int32) + ((5 : Int32) * a2)) + 0)))]) (M := sM Ln I L c s) (o := (none, .int (I 149 (tn (((187 : Int32) + ((5 : Int32) * a2)) + 0))), sM Ln I L c s)) rfl rfl (dd_Af.ret rfl ?_) (by omega)
      show dd_Rn (e + 16) m_X11_withPath (41, [.ref 148, .int a1, .int a2], [.int (I 149 (tn (((187 : Int32) + ((5 : Int32) * a2)) + 0))), .ref 157, .int a1], sM Ln I L c s) _
      obtain ⟨hc, h⟩ := h
      refine dd_Rn.ci (fun j0 => (41, [.ref 148, .int a1, .int a2], [.int j0, .ref 157, .int a1], sM Ln I L c s)) (fun j0 => (42, [.ref 148, .int a1, .int a2], [.int (I 157 (tn j0)), .int a1], sM Ln I L c s)) (fun j0 => 0 ≤ j0 ∧ tn j0 < 64) (I 149 (tn (((187 : Int32) + ((5 : Int32) * a2)) + 0))) (fun j0 hc h => dd_Rn.chk 0 (c := 0 ≤ j0 ∧ tn j0 < 64) (A := (42, [.ref 148, .int a1, .int a2], [.int (I 157 (tn j0)), .int a1], sM Ln I L c s)) rfl hc h (by omega)) hc ?_
      refine dd_Rn.se (cf := (42, [.ref 148, .int a1, .int a2], [.int (I 157 (tn (I 149 (tn (((187 : Int32) + ((5 : Int32) * a2)) + 0))))), .int a1], sM Ln I L c s)) ?_
      refine dd_Rn.ite 1 (c := I 157 (tn (I 149 (tn (((187 : Int32) + ((5 : Int32) * a2)) + 0)))) = (-1)) (A := (52, [.ref 148, .int a1, .int a2], [.int a1], sM Ln I L c s)) (B := (46, [.ref 148, .int a1, .int a2], [.int a1], sM Ln I L c s)) rfl (fun hc => ?_) (fun hc => ?_) (by omega)
      · have h := h.1 hc
        exact dd_Rn.go 5 (cf' := (14, [.ref 148, .int (a1 ||| 0), .int (a2 + 1)], [], sM Ln I L c s)) rfl h (by omega)
      · have h := h.2 hc
        exact dd_Rn.go 8 (cf' := (14, [.ref 148, .int (a1 ||| ((1 : Int32) <<< (a2 &&& 31))), .int (a2 + 1)], [], sM Ln I L c s)) rfl h (by omega)

theorem w_X11_splits_0 {Ln d c s : Nat} {I : Nat → Nat → Int32} {L : Nat → Nat → Int64} {Q : dd_O → Prop} (hd : 28 ≤ d) (h : dd_Ev (d - 1) m_X11_withPath [.ref 148] (sM Ln (dd_u I 148 (upd (I 148) 0 0)) L c s) (dd_RI Ln c s (fun x1 I1 L1 => dd_Rn d m_X11_splits (14, [.ref 148, .int x1, .int 0, .int 0], [], sM Ln I1 L1 c s) Q))) : dd_Ev d m_X11_splits [.ref 148] (sM Ln I L c s) Q := by
  obtain ⟨e, rfl⟩ : ∃ e, d = e + 16 := ⟨d - 16, by omega⟩
  show dd_Rn (e + 16) m_X11_splits (0, [.ref 148, .null, .null, .null], [], sM Ln I L c s) Q
  refine dd_Rn.cI 4 (pc := 6) (ls := [.ref 148, .null, .null, .null]) (st := [.ref 148]) (x := m_X11_withPath) (as := [.ref 148]) (rest := []) rfl rfl rfl rfl h ?_
  intro x1 I1 L1 h
  show dd_Rn (e + 16) m_X11_splits (9, [.ref 148, .null, .null, .null], [.int x1], sM Ln I1 L1 c s) _
  exact dd_Rn.go 5 (cf' := (14, [.ref 148, .int x1, .int 0, .int 0], [], sM Ln I1 L1 c s)) rfl h (by omega)

theorem w_X11_splits_14 {Ln d c s : Nat} {I : Nat → Nat → Int32} {L : Nat → Nat → Int64} {Q : dd_O → Prop} {a1 a2 a3 : Int32} (hd : 28 ≤ d) (h : (((64 : Int32) ≤ a3 → Q (none, .int a2, sM Ln I L c s)) ∧ (¬ ((64 : Int32) ≤ a3) → ((0 ≤ (11 : Int32) + a3 ∧ tn ((11 : Int32) + a3) < 2220) ∧ ((I 149 (tn ((11 : Int32) + a3)) = 1 → dd_Rn d m_X11_splits (14, [.ref 148, .int a1, .int a2, .int (a3 + 1)], [], sM Ln I L c s) Q) ∧ (¬ (I 149 (tn ((11 : Int32) + a3)) = 1) → ((a3 = I 149 4 → dd_Rn d m_X11_splits (14, [.ref 148, .int a1, .int a2, .int (a3 + 1)], [], sM Ln I L c s) Q) ∧ (¬ (a3 = I 149 4) → dd_Ev (d - 1) m_X11_isLostIn [.ref 148, .int a3] (sM Ln I L c s) (dd_RI Ln c s (fun x1 I1 L1 => ((x1 = 0 → ((0 ≤ (11 : Int32) + a3 ∧ tn ((11 : Int32) + a3) < 2220) ∧ dd_Ev (d - 1) m_X11_withPath [.ref 148] (sM Ln (dd_u I1 149 (upd (I1 149) (tn ((11 : Int32) + a3)) 1)) L1 c s) (dd_RI Ln c s (fun x2 I2 L2 => ((x2 = a1 → ((0 ≤ (11 : Int32) + a3 ∧ tn ((11 : Int32) + a3) < 2220) ∧ dd_Rn d m_X11_splits (14, [.ref 148, .int a1, .int (a2 + 0), .int (a3 + 1)], [], sM Ln (dd_u I2 149 (upd (I2 149) (tn ((11 : Int32) + a3)) 0)) L2 c s) Q)) ∧ (¬ (x2 = a1) → ((0 ≤ (11 : Int32) + a3 ∧ tn ((11 : Int32) + a3) < 2220) ∧ dd_Rn d m_X11_splits (14, [.ref 148, .int a1, .int (a2 + 1), .int (a3 + 1)], [], sM Ln (dd_u I2 149 (upd (I2 149) (tn ((11 : Int32) + a3)) 0)) L2 c s) Q))))))) ∧ (¬ (x1 = 0) → dd_Rn d m_X11_splits (14, [.ref 148, .int a1, .int a2, .int (a3 + 1)], [], sM Ln I1 L1 c s) Q)))))))))))) : dd_Rn d m_X11_splits (14, [.ref 148, .int a1, .int a2, .int a3], [], sM Ln I L c s) Q := by
  obtain ⟨e, rfl⟩ : ∃ e, d = e + 16 := ⟨d - 16, by omega⟩
  refine dd_Rn.ite 2 (c := (64 : Int32) ≤ a3) (A := (91, [.ref 148, .int a1, .int a2, .int a3], [], sM Ln I L c s)) (B := (20, [.ref 148, .int a1, .int a2, .int a3], [], sM Ln I L c s)) rfl (fun hc => ?_) (fun hc => ?_) (by omega)
  · have h := h.1 hc
    exact dd_Rn.retK 1 (pc := 92) (ls := [.ref 148, .int a1, .int a2, .int a3]) (st := [.int a2]) (M := sM Ln I L c s) (o := (none, .int a2, sM Ln I L c s)) rfl rfl h (by omega)
  · have h := h.2 hc
    refine dd_Rn.sub 2 (pc := 22) (ls := [.ref 148, .int a1, .int a2, .int a3]) (st := [.int a3, .ref 148]) (M := sM Ln I L c s) (x := m_X11_hasTrees) (as := [.ref 148, .int a3]) (rest := []) rfl rfl rfl rfl ?_
    show dd_Rn (e + 15) m_X11_hasTrees (0, [.ref 148, .int a3], [], sM Ln I L c s) _
    obtain ⟨hc, h⟩ := h
    refine dd_Rn.go 5 (cf' := (8, [.ref 148, .int a3], [.int ((11 : Int32) + a3), .ref 149], sM Ln I L c s)) rfl ?_ (by omega)
    refine dd_Rn.ci (fun j0 => (8, [.ref 148, .int a3], [.int j0, .ref 149], sM Ln I L c s)) (fun j0 => (9, [.ref 148, .int a3], [.int (I 149 (tn j0))], sM Ln I L c s)) (fun j0 => 0 ≤ j0 ∧ tn j0 < 2220) ((11 : Int32) + a3) (fun j0 hc h => dd_Rn.chk 0 (c := 0 ≤ j0 ∧ tn j0 < 2220) (A := (9, [.ref 148, .int a3], [.int (I 149 (tn j0))], sM Ln I L c s)) rfl hc h (by omega)) hc ?_
    refine dd_Rn.se (cf := (9, [.ref 148, .int a3], [.int (I 149 (tn ((11 : Int32) + a3)))], sM Ln I L c s)) ?_
    refine dd_Rn.ite 1 (c := I 149 (tn ((11 : Int32) + a3)) = 1) (A := (13, [.ref 148, .int a3], [], sM Ln I L c s)) (B := (17, [.ref 148, .int a3], [], sM Ln I L c s)) rfl (fun hc => ?_) (fun hc => ?_) (by omega)
    · have h := h.1 hc
      refine dd_Rn.retK 2 (pc := 18) (ls := [.ref 148, .int a3]) (st := [.int 1]) (M := sM Ln I L c s) (o := (none, .int 1, sM Ln I L c s)) rfl rfl (dd_Af.ret rfl ?_) (by omega)
      show dd_Rn (e + 16) m_X11_splits (25, [.ref 148, .int a1, .int a2, .int a3], [.int 1], sM Ln I L c s) _
      exact dd_Rn.go 3 (cf' := (14, [.ref 148, .int a1, .int a2, .int (a3 + 1)], [], sM Ln I L c s)) rfl h (by omega)
    · have h := h.2 hc
      refine dd_Rn.retK 1 (pc := 18) (ls := [.ref 148, .int a3]) (st := [.int 0]) (M := sM Ln I L c s) (o := (none, .int 0, sM Ln I L c s)) rfl rfl (dd_Af.ret rfl ?_) (by omega)
      show dd_Rn (e + 16) m_X11_splits (25, [.ref 148, .int a1, .int a2, .int a3], [.int 0], sM Ln I L c s) _
      refine dd_Rn.ite 6 (c := a3 = I 149 4) (A := (85, [.ref 148, .int a1, .int a2, .int a3], [], sM Ln I L c s)) (B := (38, [.ref 148, .int a1, .int a2, .int a3], [], sM Ln I L c s)) rfl (fun hc => ?_) (fun hc => ?_) (by omega)
      · have h := h.1 hc
        exact dd_Rn.go 2 (cf' := (14, [.ref 148, .int a1, .int a2, .int (a3 + 1)], [], sM Ln I L c s)) rfl h (by omega)
      · have h := h.2 hc
        refine dd_Rn.cI 2 (pc := 40) (ls := [.ref 148, .int a1, .int a2, .int a3]) (st := [.int a3, .ref 148]) (x := m_X11_isLostIn) (as := [.ref 148, .int a3]) (rest := []) rfl rfl rfl rfl h ?_
        intro x1 I1 L1 h
        show dd_Rn (e + 16) m_X11_splits (43, [.ref 148, .int a1, .int a2, .int a3], [.int x1], sM Ln I1 L1 c s) _
        refine dd_Rn.ite 0 (c := x1 = 0) (A := (49, [.ref 148, .int a1, .int a2, .int a3], [], sM Ln I1 L1 c s)) (B := (46, [.ref 148, .int a1, .int a2, .int a3], [], sM Ln I1 L1 c s)) rfl (fun hc => ?_) (fun hc => ?_) (by omega)
        · have h := h.1 hc
          obtain ⟨hc, h⟩ := h
          refine dd_Rn.go 6 (cf' := (58, [.ref 148, .int a1, .int a2, .int a3], [.int 1, .int ((11 : Int32) + a3), .ref 149], sM Ln I1 L1 c s)) rfl ?_ (by omega)
          refine dd_Rn.ci (fun j0 => (58, [.ref 148, .int a1, .int a2, .int a3], [.int 1, .int j0, .ref 149], sM Ln I1 L1 c s)) (fun j0 => (59, [.ref 148, .int a1, .int a2, .int a3], [], sM Ln (dd_u I1 149 (upd (I1 149) (tn j0) 1)) L1 c s)) (fun j0 => 0 ≤ j0 ∧ tn j0 < 2220) ((11 : Int32) + a3) (fun j0 hc h => dd_Rn.chk 0 (c := 0 ≤ j0 ∧ tn j0 < 2220) (A := (59, [.ref 148, .int a1, .int a2, .int a3], [], sM Ln (dd_u I1 149 (upd (I1 149) (tn j0) 1)) L1 c s)) rfl hc h (by omega)) hc ?_
          refine dd_Rn.se (cf := (59, [.ref 148, .int a1, .int a2, .int a3], [], sM Ln (dd_u I1 149 (upd (I1 149) (tn ((11 : Int32) + a3)) 1)) L1 c s)) ?_
          refine dd_Rn.cI 2 (pc := 61) (ls := [.ref 148, .int a1, .int a2, .int a3]) (st := [.ref 148, .int a2]) (x := m_X11_withPath) (as := [.ref 148]) (rest := [.int a2]) rfl rfl rfl rfl h ?_
          intro x2 I2 L2 h
          show dd_Rn (e + 16) m_X11_splits (64, [.ref 148, .int a1, .int a2, .int a3], [.int x2, .int a2], sM Ln I2 L2 c s) _
          refine dd_Rn.ite 1 (c := x2 = a1) (A := (72, [.ref 148, .int a1, .int a2, .int a3], [.int a2], sM Ln I2 L2 c s)) (B := (68, [.ref 148, .int a1, .int a2, .int a3], [.int a2], sM Ln I2 L2 c s)) rfl (fun hc => ?_) (fun hc => ?_) (by omega)
          · have h := h.1 hc
            obtain ⟨hc, h⟩ := h
            refine dd_Rn.go 9 (cf' := (84, [.ref 148, .int a1, .int (a2 + 0), .int a3], [.int 0, .int ((11 : Int32) + a3), .ref 149], sM Ln I2 L2 c s)) rfl ?_ (by omega)
            refine dd_Rn.ci (fun j0 => (84, [.ref 148, .int a1, .int (a2 + 0), .int a3], [.int 0, .int j0, .ref 149], sM Ln I2 L2 c s)) (fun j0 => (85, [.ref 148, .int a1, .int (a2 + 0), .int a3], [], sM Ln (dd_u I2 149 (upd (I2 149) (tn j0) 0)) L2 c s)) (fun j0 => 0 ≤ j0 ∧ tn j0 < 2220) ((11 : Int32) + a3) (fun j0 hc h => dd_Rn.chk 0 (c := 0 ≤ j0 ∧ tn j0 < 2220) (A := (85, [.ref 148, .int a1, .int (a2 + 0), .int a3], [], sM Ln (dd_u I2 149 (upd (I2 149) (tn j0) 0)) L2 c s)) rfl hc h (by omega)) hc ?_
            refine dd_Rn.se (cf := (85, [.ref 148, .int a1, .int (a2 + 0), .int a3], [], sM Ln (dd_u I2 149 (upd (I2 149) (tn ((11 : Int32) + a3)) 0)) L2 c s)) ?_
            exact dd_Rn.go 2 (cf' := (14, [.ref 148, .int a1, .int (a2 + 0), .int (a3 + 1)], [], sM Ln (dd_u I2 149 (upd (I2 149) (tn ((11 : Int32) + a3)) 0)) L2 c s)) rfl h (by omega)
          · have h := h.2 hc
            obtain ⟨hc, h⟩ := h
            refine dd_Rn.go 10 (cf' := (84, [.ref 148, .int a1, .int (a2 + 1), .int a3], [.int 0, .int ((11 : Int32) + a3), .ref 149], sM Ln I2 L2 c s)) rfl ?_ (by omega)
            refine dd_Rn.ci (fun j0 => (84, [.ref 148, .int a1, .int (a2 + 1), .int a3], [.int 0, .int j0, .ref 149], sM Ln I2 L2 c s)) (fun j0 => (85, [.ref 148, .int a1, .int (a2 + 1), .int a3], [], sM Ln (dd_u I2 149 (upd (I2 149) (tn j0) 0)) L2 c s)) (fun j0 => 0 ≤ j0 ∧ tn j0 < 2220) ((11 : Int32) + a3) (fun j0 hc h => dd_Rn.chk 0 (c := 0 ≤ j0 ∧ tn j0 < 2220) (A := (85, [.ref 148, .int a1, .int (a2 + 1), .int a3], [], sM Ln (dd_u I2 149 (upd (I2 149) (tn j0) 0)) L2 c s)) rfl hc h (by omega)) hc ?_
            refine dd_Rn.se (cf := (85, [.ref 148, .int a1, .int (a2 + 1), .int a3], [], sM Ln (dd_u I2 149 (upd (I2 149) (tn ((11 : Int32) + a3)) 0)) L2 c s)) ?_
            exact dd_Rn.go 2 (cf' := (14, [.ref 148, .int a1, .int (a2 + 1), .int (a3 + 1)], [], sM Ln (dd_u I2 149 (upd (I2 149) (tn ((11 : Int32) + a3)) 0)) L2 c s)) rfl h (by omega)
        · have h := h.2 hc
          exact dd_Rn.go 3 (cf' := (14, [.ref 148, .int a1, .int a2, .int (a3 + 1)], [], sM Ln I1 L1 c s)) rfl h (by omega)

theorem w_X11_soon_0 {Ln d c s : Nat} {I : Nat → Nat → Int32} {L : Nat → Nat → Int64} {Q : dd_O → Prop} {a1 : Int32} (hd : 28 ≤ d) (h : ((a1 < 0 → Q (none, .int 0, sM Ln (dd_u (dd_u I 148 (upd (I 148) 0 0)) 148 (upd (upd (I 148) 0 0) 0 1)) L c s)) ∧ (¬ (a1 < 0) → (((I 149 1) - 1 < a1 → Q (none, .int 0, sM Ln (dd_u (dd_u I 148 (upd (I 148) 0 0)) 148 (upd (upd (I 148) 0 0) 0 1)) L c s)) ∧ (¬ ((I 149 1) - 1 < a1) → dd_Ev (d - 1) m_X11_soonOf [.ref 148, .int a1] (sM Ln (dd_u I 148 (upd (I 148) 0 0)) L c s) (dd_RI Ln c s (fun x1 I1 L1 => ((x1 = 101 → Q (none, .int (-1), sM Ln I1 L1 c s)) ∧ (¬ (x1 = 101) → Q (none, .int x1, sM Ln I1 L1 c s)))))))))) : dd_Ev d m_X11_soon [.ref 148, .int a1] (sM Ln I L c s) Q := by
  obtain ⟨e, rfl⟩ : ∃ e, d = e + 16 := ⟨d - 16, by omega⟩
  show dd_Rn (e + 16) m_X11_soon (0, [.ref 148, .int a1], [], sM Ln I L c s) Q
  refine dd_Rn.sub 6 (pc := 8) (ls := [.ref 148, .int a1]) (st := [.int a1, .ref 148, .ref 148]) (M := sM Ln (dd_u I 148 (upd (I 148) 0 0)) L c s) (x := m_X11_noBoy) (as := [.ref 148, .int a1]) (rest := [.ref 148]) rfl rfl rfl rfl ?_
  show dd_Rn (e + 15) m_X11_noBoy (0, [.ref 148, .int a1], [], sM Ln (dd_u I 148 (upd (I 148) 0 0)) L c s) _
  refine dd_Rn.sub 3 (pc := 3) (ls := [.ref 148, .int a1]) (st := [.ref 148, .int 0, .int a1]) (M := sM Ln (dd_u I 148 (upd (I 148) 0 0)) L c s) (x := m_X11_boys) (as := [.ref 148]) (rest := [.int 0, .int a1]) rfl rfl rfl rfl ?_
  show dd_Rn (e + 14) m_X11_boys (0, [.ref 148], [], sM Ln (dd_u I 148 (upd (I 148) 0 0)) L c s) _
  refine dd_Rn.retK 4 (pc := 6) (ls := [.ref 148]) (st := [.int (I 149 1)]) (M := sM Ln (dd_u I 148 (upd (I 148) 0 0)) L c s) (o := (none, .int (I 149 1), sM Ln (dd_u I 148 (upd (I 148) 0 0)) L c s)) rfl rfl (dd_Af.ret rfl ?_) (by omega)
  show dd_Rn (e + 15) m_X11_noBoy (6, [.ref 148, .int a1], [.int (I 149 1), .int 0, .int a1], sM Ln (dd_u I 148 (upd (I 148) 0 0)) L c s) _
  refine dd_Rn.sub 2 (pc := 8) (ls := [.ref 148, .int a1]) (st := [.int ((I 149 1) - 1), .int 0, .int a1]) (M := sM Ln (dd_u I 148 (upd (I 148) 0 0)) L c s) (x := m_X11_in) (as := [.int a1, .int 0, .int ((I 149 1) - 1)]) (rest := []) rfl rfl rfl rfl ?_
  show dd_Rn (e + 14) m_X11_in (0, [.int a1, .int 0, .int ((I 149 1) - 1)], [], sM Ln (dd_u I 148 (upd (I 148) 0 0)) L c s) _
  refine dd_Rn.ite 2 (c := a1 < 0) (A := (14, [.int a1, .int 0, .int ((I 149 1) - 1)], [], sM Ln (dd_u I 148 (upd (I 148) 0 0)) L c s)) (B := (5, [.int a1, .int 0, .int ((I 149 1) - 1)], [], sM Ln (dd_u I 148 (upd (I 148) 0 0)) L c s)) rfl (fun hc => ?_) (fun hc => ?_) (by omega)
  · have h := h.1 hc
    refine dd_Rn.retK 1 (pc := 15) (ls := [.int a1, .int 0, .int ((I 149 1) - 1)]) (st := [.int 0]) (M := sM Ln (dd_u I 148 (upd (I 148) 0 0)) L c s) (o := (none, .int 0, sM Ln (dd_u I 148 (upd (I 148) 0 0)) L c s)) rfl rfl (dd_Af.ret rfl ?_) (by omega)
    show dd_Rn (e + 15) m_X11_noBoy (11, [.ref 148, .int a1], [.int 0], sM Ln (dd_u I 148 (upd (I 148) 0 0)) L c s) _
    refine dd_Rn.retK 3 (pc := 19) (ls := [.ref 148, .int a1]) (st := [.int 1]) (M := sM Ln (dd_u I 148 (upd (I 148) 0 0)) L c s) (o := (none, .int 1, sM Ln (dd_u I 148 (upd (I 148) 0 0)) L c s)) rfl rfl (dd_Af.ret rfl ?_) (by omega)
    show dd_Rn (e + 16) m_X11_soon (11, [.ref 148, .int a1], [.int 1, .ref 148], sM Ln (dd_u I 148 (upd (I 148) 0 0)) L c s) _
    refine dd_Rn.sub 1 (pc := 12) (ls := [.ref 148, .int a1]) (st := [.int 1, .int 1, .ref 148]) (M := sM Ln (dd_u I 148 (upd (I 148) 0 0)) L c s) (x := m_X11_throwsIf) (as := [.ref 148, .int 1, .int 1]) (rest := []) rfl rfl rfl rfl ?_
    show dd_Rn (e + 15) m_X11_throwsIf (0, [.ref 148, .int 1, .int 1], [], sM Ln (dd_u I 148 (upd (I 148) 0 0)) L c s) _
    refine dd_Rn.retK 6 (pc := 10) (ls := [.ref 148, .int 1, .int 1]) (st := [.int 1]) (M := sM Ln (dd_u (dd_u I 148 (upd (I 148) 0 0)) 148 (upd (upd (I 148) 0 0) 0 1)) L c s) (o := (none, .int 1, sM Ln (dd_u (dd_u I 148 (upd (I 148) 0 0)) 148 (upd (upd (I 148) 0 0) 0 1)) L c s)) rfl rfl (dd_Af.ret rfl ?_) (by omega)
    show dd_Rn (e + 16) m_X11_soon (15, [.ref 148, .int a1], [.int 1], sM Ln (dd_u (dd_u I 148 (upd (I 148) 0 0)) 148 (upd (upd (I 148) 0 0) 0 1)) L c s) _
    exact dd_Rn.retK 3 (pc := 30) (ls := [.ref 148, .int a1]) (st := [.int 0]) (M := sM Ln (dd_u (dd_u I 148 (upd (I 148) 0 0)) 148 (upd (upd (I 148) 0 0) 0 1)) L c s) (o := (none, .int 0, sM Ln (dd_u (dd_u I 148 (upd (I 148) 0 0)) 148 (upd (upd (I 148) 0 0) 0 1)) L c s)) rfl rfl h (by omega)
  · have h := h.2 hc
    refine dd_Rn.ite 2 (c := (I 149 1) - 1 < a1) (A := (14, [.int a1, .int 0, .int ((I 149 1) - 1)], [], sM Ln (dd_u I 148 (upd (I 148) 0 0)) L c s)) (B := (10, [.int a1, .int 0, .int ((I 149 1) - 1)], [], sM Ln (dd_u I 148 (upd (I 148) 0 0)) L c s)) rfl (fun hc => ?_) (fun hc => ?_) (by omega)
    · have h := h.1 hc
      refine dd_Rn.retK 1 (pc := 15) (ls := [.int a1, .int 0, .int ((I 149 1) - 1)]) (st := [.int 0]) (M := sM Ln (dd_u I 148 (upd (I 148) 0 0)) L c s) (o := (none, .int 0, sM Ln (dd_u I 148 (upd (I 148) 0 0)) L c s)) rfl rfl (dd_Af.ret rfl ?_) (by omega)
      show dd_Rn (e + 15) m_X11_noBoy (11, [.ref 148, .int a1], [.int 0], sM Ln (dd_u I 148 (upd (I 148) 0 0)) L c s) _
      refine dd_Rn.retK 3 (pc := 19) (ls := [.ref 148, .int a1]) (st := [.int 1]) (M := sM Ln (dd_u I 148 (upd (I 148) 0 0)) L c s) (o := (none, .int 1, sM Ln (dd_u I 148 (upd (I 148) 0 0)) L c s)) rfl rfl (dd_Af.ret rfl ?_) (by omega)
      show dd_Rn (e + 16) m_X11_soon (11, [.ref 148, .int a1], [.int 1, .ref 148], sM Ln (dd_u I 148 (upd (I 148) 0 0)) L c s) _
      refine dd_Rn.sub 1 (pc := 12) (ls := [.ref 148, .int a1]) (st := [.int 1, .int 1, .ref 148]) (M := sM Ln (dd_u I 148 (upd (I 148) 0 0)) L c s) (x := m_X11_throwsIf) (as := [.ref 148, .int 1, .int 1]) (rest := []) rfl rfl rfl rfl ?_
      show dd_Rn (e + 15) m_X11_throwsIf (0, [.ref 148, .int 1, .int 1], [], sM Ln (dd_u I 148 (upd (I 148) 0 0)) L c s) _
      refine dd_Rn.retK 6 (pc := 10) (ls := [.ref 148, .int 1, .int 1]) (st := [.int 1]) (M := sM Ln (dd_u (dd_u I 148 (upd (I 148) 0 0)) 148 (upd (upd (I 148) 0 0) 0 1)) L c s) (o := (none, .int 1, sM Ln (dd_u (dd_u I 148 (upd (I 148) 0 0)) 148 (upd (upd (I 148) 0 0) 0 1)) L c s)) rfl rfl (dd_Af.ret rfl ?_) (by omega)
      show dd_Rn (e + 16) m_X11_soon (15, [.ref 148, .int a1], [.int 1], sM Ln (dd_u (dd_u I 148 (upd (I 148) 0 0)) 148 (upd (upd (I 148) 0 0) 0 1)) L c s) _
      exact dd_Rn.retK 3 (pc := 30) (ls := [.ref 148, .int a1]) (st := [.int 0]) (M := sM Ln (dd_u (dd_u I 148 (upd (I 148) 0 0)) 148 (upd (upd (I 148) 0 0) 0 1)) L c s) (o := (none, .int 0, sM Ln (dd_u (dd_u I 148 (upd (I 148) 0 0)) 148 (upd (upd (I 148) 0 0) 0 1)) L c s)) rfl rfl h (by omega)
    · have h := h.2 hc
      refine dd_Rn.retK 2 (pc := 15) (ls := [.int a1, .int 0, .int ((I 149 1) - 1)]) (st := [.int 1]) (M := sM Ln (dd_u I 148 (upd (I 148) 0 0)) L c s) (o := (none, .int 1, sM Ln (dd_u I 148 (upd (I 148) 0 0)) L c s)) rfl rfl (dd_Af.ret rfl ?_) (by omega)
      show dd_Rn (e + 15) m_X11_noBoy (11, [.ref 148, .int a1], [.int 1], sM Ln (dd_u I 148 (upd (I 148) 0 0)) L c s) _
      refine dd_Rn.retK 2 (pc := 19) (ls := [.ref 148, .int a1]) (st := [.int 0]) (M := sM Ln (dd_u I 148 (upd (I 148) 0 0)) L c s) (o := (none, .int 0, sM Ln (dd_u I 148 (upd (I 148) 0 0)) L c s)) rfl rfl (dd_Af.ret rfl ?_) (by omega)
      show dd_Rn (e + 16) m_X11_soon (11, [.ref 148, .int a1], [.int 0, .ref 148], sM Ln (dd_u I 148 (upd (I 148) 0 0)) L c s) _
      refine dd_Rn.sub 1 (pc := 12) (ls := [.ref 148, .int a1]) (st := [.int 1, .int 0, .ref 148]) (M := sM Ln (dd_u I 148 (upd (I 148) 0 0)) L c s) (x := m_X11_throwsIf) (as := [.ref 148, .int 0, .int 1]) (rest := []) rfl rfl rfl rfl ?_
      show dd_Rn (e + 15) m_X11_throwsIf (0, [.ref 148, .int 0, .int 1], [], sM Ln (dd_u I 148 (upd (I 148) 0 0)) L c s) _
      refine dd_Rn.retK 3 (pc := 10) (ls := [.ref 148, .int 0, .int 1]) (st := [.int 0]) (M := sM Ln (dd_u I 148 (upd (I 148) 0 0)) L c s) (o := (none, .int 0, sM Ln (dd_u I 148 (upd (I 148) 0 0)) L c s)) rfl rfl (dd_Af.ret rfl ?_) (by omega)
      show dd_Rn (e + 16) m_X11_soon (15, [.ref 148, .int a1], [.int 0], sM Ln (dd_u I 148 (upd (I 148) 0 0)) L c s) _
      refine dd_Rn.cI 3 (pc := 24) (ls := [.ref 148, .int a1]) (st := [.int a1, .ref 148]) (x := m_X11_soonOf) (as := [.ref 148, .int a1]) (rest := []) rfl rfl rfl rfl h ?_
      intro x1 I1 L1 h
      show dd_Rn (e + 16) m_X11_soon (27, [.ref 148, .int a1], [.int x1], sM Ln I1 L1 c s) _
      refine dd_Rn.sub 0 (pc := 27) (ls := [.ref 148, .int a1]) (st := [.int x1]) (M := sM Ln I1 L1 c s) (x := m_X11_orNone) (as := [.int x1]) (rest := []) rfl rfl rfl rfl ?_
      show dd_Rn (e + 15) m_X11_orNone (0, [.int x1], [], sM Ln I1 L1 c s) _
      refine dd_Rn.ite 2 (c := x1 = 101) (A := (6, [.int x1], [], sM Ln I1 L1 c s)) (B := (10, [.int x1], [], sM Ln I1 L1 c s)) rfl (fun hc => ?_) (fun hc => ?_) (by omega)
      · have h := h.1 hc
        refine dd_Rn.retK 2 (pc := 11) (ls := [.int x1]) (st := [.int (-1)]) (M := sM Ln I1 L1 c s) (o := (none, .int (-1), sM Ln I1 L1 c s)) rfl rfl (dd_Af.ret rfl ?_) (by omega)
        show dd_Rn (e + 16) m_X11_soon (30, [.ref 148, .int a1], [.int (-1)], sM Ln I1 L1 c s) _
        exact dd_Rn.retK 0 (pc := 30) (ls := [.ref 148, .int a1]) (st := [.int (-1)]) (M := sM Ln I1 L1 c s) (o := (none, .int (-1), sM Ln I1 L1 c s)) rfl rfl h (by omega)
      · have h := h.2 hc
        refine dd_Rn.retK 1 (pc := 11) (ls := [.int x1]) (st := [.int x1]) (M := sM Ln I1 L1 c s) (o := (none, .int x1, sM Ln I1 L1 c s)) rfl rfl (dd_Af.ret rfl ?_) (by omega)
        show dd_Rn (e + 16) m_X11_soon (30, [.ref 148, .int a1], [.int x1], sM Ln I1 L1 c s) _
        exact dd_Rn.retK 0 (pc := 30) (ls := [.ref 148, .int a1]) (st := [.int x1]) (M := sM Ln I1 L1 c s) (o := (none, .int x1, sM Ln I1 L1 c s)) rfl rfl h (by omega)

theorem w_X11_by_0 {Ln d c s : Nat} {I : Nat → Nat → Int32} {L : Nat → Nat → Int64} {Q : dd_O → Prop} {a1 a2 : Int32} (hd : 28 ≤ d) (h : ((a1 < 0 → Q (none, .int 0, sM Ln (dd_u (dd_u I 148 (upd (I 148) 0 0)) 148 (upd (upd (I 148) 0 0) 0 1)) L c s)) ∧ (¬ (a1 < 0) → (((I 149 1) - 1 < a1 → Q (none, .int 0, sM Ln (dd_u (dd_u I 148 (upd (I 148) 0 0)) 148 (upd (upd (I 148) 0 0) 0 1)) L c s)) ∧ (¬ ((I 149 1) - 1 < a1) → ((a2 < 0 → Q (none, .int 0, sM Ln (dd_u (dd_u I 148 (upd (I 148) 0 0)) 148 (upd (upd (I 148) 0 0) 0 1)) L c s)) ∧ (¬ (a2 < 0) → (((I 149 0) - 1 < a2 → Q (none, .int 0, sM Ln (dd_u (dd_u I 148 (upd (I 148) 0 0)) 148 (upd (upd (I 148) 0 0) 0 1)) L c s)) ∧ (¬ ((I 149 0) - 1 < a2) → dd_Ev (d - 1) m_X11_soonBy [.ref 148, .int a1, .int a2] (sM Ln (dd_u I 148 (upd (I 148) 0 0)) L c s) (dd_RI Ln c s (fun x1 I1 L1 => ((x1 = 101 → Q (none, .int (-1), sM Ln I1 L1 c s)) ∧ (¬ (x1 = 101) → Q (none, .int x1, sM Ln I1 L1 c s)))))))))))))) : dd_Ev d m_X11_by [.ref 148, .int a1, .int a2] (sM Ln I L c s) Q := by
  obtain ⟨e, rfl⟩ : ∃ e, d = e + 16 := ⟨d - 16, by omega⟩
  show dd_Rn (e + 16) m_X11_by (0, [.ref 148, .int a1, .int a2], [], sM Ln I L c s) Q
  refine dd_Rn.sub 6 (pc := 8) (ls := [.ref 148, .int a1, .int a2]) (st := [.int a1, .ref 148, .ref 148]) (M := sM Ln (dd_u I 148 (upd (I 148) 0 0)) L c s) (x := m_X11_noBoy) (as := [.ref 148, .int a1]) (rest := [.ref 148]) rfl rfl rfl rfl ?_
  show dd_Rn (e + 15) m_X11_noBoy (0, [.ref 148, .int a1], [], sM Ln (dd_u I 148 (upd (I 148) 0 0)) L c s) _
  refine dd_Rn.sub 3 (pc := 3) (ls := [.ref 148, .int a1]) (st := [.ref 148, .int 0, .int a1]) (M := sM Ln (dd_u I 148 (upd (I 148) 0 0)) L c s) (x := m_X11_boys) (as := [.ref 148]) (rest := [.int 0, .int a1]) rfl rfl rfl rfl ?_
  show dd_Rn (e + 14) m_X11_boys (0, [.ref 148], [], sM Ln (dd_u I 148 (upd (I 148) 0 0)) L c s) _
  refine dd_Rn.retK 4 (pc := 6) (ls := [.ref 148]) (st := [.int (I 149 1)]) (M := sM Ln (dd_u I 148 (upd (I 148) 0 0)) L c s) (o := (none, .int (I 149 1), sM Ln (dd_u I 148 (upd (I 148) 0 0)) L c s)) rfl rfl (dd_Af.ret rfl ?_) (by omega)
  show dd_Rn (e + 15) m_X11_noBoy (6, [.ref 148, .int a1], [.int (I 149 1), .int 0, .int a1], sM Ln (dd_u I 148 (upd (I 148) 0 0)) L c s) _
  refine dd_Rn.sub 2 (pc := 8) (ls := [.ref 148, .int a1]) (st := [.int ((I 149 1) - 1), .int 0, .int a1]) (M := sM Ln (dd_u I 148 (upd (I 148) 0 0)) L c s) (x := m_X11_in) (as := [.int a1, .int 0, .int ((I 149 1) - 1)]) (rest := []) rfl rfl rfl rfl ?_
  show dd_Rn (e + 14) m_X11_in (0, [.int a1, .int 0, .int ((I 149 1) - 1)], [], sM Ln (dd_u I 148 (upd (I 148) 0 0)) L c s) _
  refine dd_Rn.ite 2 (c := a1 < 0) (A := (14, [.int a1, .int 0, .int ((I 149 1) - 1)], [], sM Ln (dd_u I 148 (upd (I 148) 0 0)) L c s)) (B := (5, [.int a1, .int 0, .int ((I 149 1) - 1)], [], sM Ln (dd_u I 148 (upd (I 148) 0 0)) L c s)) rfl (fun hc => ?_) (fun hc => ?_) (by omega)
  · have h := h.1 hc
    refine dd_Rn.retK 1 (pc := 15) (ls := [.int a1, .int 0, .int ((I 149 1) - 1)]) (st := [.int 0]) (M := sM Ln (dd_u I 148 (upd (I 148) 0 0)) L c s) (o := (none, .int 0, sM Ln (dd_u I 148 (upd (I 148) 0 0)) L c s)) rfl rfl (dd_Af.ret rfl ?_) (by omega)
    show dd_Rn (e + 15) m_X11_noBoy (11, [.ref 148, .int a1], [.int 0], sM Ln (dd_u I 148 (upd (I 148) 0 0)) L c s) _
    refine dd_Rn.retK 3 (pc := 19) (ls := [.ref 148, .int a1]) (st := [.int 1]) (M := sM Ln (dd_u I 148 (upd (I 148) 0 0)) L c s) (o := (none, .int 1, sM Ln (dd_u I 148 (upd (I 148) 0 0)) L c s)) rfl rfl (dd_Af.ret rfl ?_) (by omega)
    show dd_Rn (e + 16) m_X11_by (11, [.ref 148, .int a1, .int a2], [.int 1, .ref 148], sM Ln (dd_u I 148 (upd (I 148) 0 0)) L c s) _
    refine dd_Rn.sub 4 (pc := 28) (ls := [.ref 148, .int a1, .int a2]) (st := [.int 1, .int 1, .ref 148]) (M := sM Ln (dd_u I 148 (upd (I 148) 0 0)) L c s) (x := m_X11_throwsIf) (as := [.ref 148, .int 1, .int 1]) (rest := []) rfl rfl rfl rfl ?_
    show dd_Rn (e + 15) m_X11_throwsIf (0, [.ref 148, .int 1, .int 1], [], sM Ln (dd_u I 148 (upd (I 148) 0 0)) L c s) _
    refine dd_Rn.retK 6 (pc := 10) (ls := [.ref 148, .int 1, .int 1]) (st := [.int 1]) (M := sM Ln (dd_u (dd_u I 148 (upd (I 148) 0 0)) 148 (upd (upd (I 148) 0 0) 0 1)) L c s) (o := (none, .int 1, sM Ln (dd_u (dd_u I 148 (upd (I 148) 0 0)) 148 (upd (upd (I 148) 0 0) 0 1)) L c s)) rfl rfl (dd_Af.ret rfl ?_) (by omega)
    show dd_Rn (e + 16) m_X11_by (31, [.ref 148, .int a1, .int a2], [.int 1], sM Ln (dd_u (dd_u I 148 (upd (I 148) 0 0)) 148 (upd (upd (I 148) 0 0) 0 1)) L c s) _
    exact dd_Rn.retK 3 (pc := 47) (ls := [.ref 148, .int a1, .int a2]) (st := [.int 0]) (M := sM Ln (dd_u (dd_u I 148 (upd (I 148) 0 0)) 148 (upd (upd (I 148) 0 0) 0 1)) L c s) (o := (none, .int 0, sM Ln (dd_u (dd_u I 148 (upd (I 148) 0 0)) 148 (upd (upd (I 148) 0 0) 0 1)) L c s)) rfl rfl h (by omega)
  · have h := h.2 hc
    refine dd_Rn.ite 2 (c := (I 149 1) - 1 < a1) (A := (14, [.int a1, .int 0, .int ((I 149 1) - 1)], [], sM Ln (dd_u I 148 (upd (I 148) 0 0)) L c s)) (B := (10, [.int a1, .int 0, .int ((I 149 1) - 1)], [], sM Ln (dd_u I 148 (upd (I 148) 0 0)) L c s)) rfl (fun hc => ?_) (fun hc => ?_) (by omega)
    · have h := h.1 hc
      refine dd_Rn.retK 1 (pc := 15) (ls := [.int a1, .int 0, .int ((I 149 1) - 1)]) (st := [.int 0]) (M := sM Ln (dd_u I 148 (upd (I 148) 0 0)) L c s) (o := (none, .int 0, sM Ln (dd_u I 148 (upd (I 148) 0 0)) L c s)) rfl rfl (dd_Af.ret rfl ?_) (by omega)
      show dd_Rn (e + 15) m_X11_noBoy (11, [.ref 148, .int a1], [.int 0], sM Ln (dd_u I 148 (upd (I 148) 0 0)) L c s) _
      refine dd_Rn.retK 3 (pc := 19) (ls := [.ref 148, .int a1]) (st := [.int 1]) (M := sM Ln (dd_u I 148 (upd (I 148) 0 0)) L c s) (o := (none, .int 1, sM Ln (dd_u I 148 (upd (I 148) 0 0)) L c s)) rfl rfl (dd_Af.ret rfl ?_) (by omega)
      show dd_Rn (e + 16) m_X11_by (11, [.ref 148, .int a1, .int a2], [.int 1, .ref 148], sM Ln (dd_u I 148 (upd (I 148) 0 0)) L c s) _
      refine dd_Rn.sub 4 (pc := 28) (ls := [.ref 148, .int a1, .int a2]) (st := [.int 1, .int 1, .ref 148]) (M := sM Ln (dd_u I 148 (upd (I 148) 0 0)) L c s) (x := m_X11_throwsIf) (as := [.ref 148, .int 1, .int 1]) (rest := []) rfl rfl rfl rfl ?_
      show dd_Rn (e + 15) m_X11_throwsIf (0, [.ref 148, .int 1, .int 1], [], sM Ln (dd_u I 148 (upd (I 148) 0 0)) L c s) _
      refine dd_Rn.retK 6 (pc := 10) (ls := [.ref 148, .int 1, .int 1]) (st := [.int 1]) (M := sM Ln (dd_u (dd_u I 148 (upd (I 148) 0 0)) 148 (upd (upd (I 148) 0 0) 0 1)) L c s) (o := (none, .int 1, sM Ln (dd_u (dd_u I 148 (upd (I 148) 0 0)) 148 (upd (upd (I 148) 0 0) 0 1)) L c s)) rfl rfl (dd_Af.ret rfl ?_) (by omega)
      show dd_Rn (e + 16) m_X11_by (31, [.ref 148, .int a1, .int a2], [.int 1], sM Ln (dd_u (dd_u I 148 (upd (I 148) 0 0)) 148 (upd (upd (I 148) 0 0) 0 1)) L c s) _
      exact dd_Rn.retK 3 (pc := 47) (ls := [.ref 148, .int a1, .int a2]) (st := [.int 0]) (M := sM Ln (dd_u (dd_u I 148 (upd (I 148) 0 0)) 148 (upd (upd (I 148) 0 0) 0 1)) L c s) (o := (none, .int 0, sM Ln (dd_u (dd_u I 148 (upd (I 148) 0 0)) 148 (upd (upd (I 148) 0 0) 0 1)) L c s)) rfl rfl h (by omega)
    · have h := h.2 hc
      refine dd_Rn.retK 2 (pc := 15) (ls := [.int a1, .int 0, .int ((I 149 1) - 1)]) (st := [.int 1]) (M := sM Ln (dd_u I 148 (upd (I 148) 0 0)) L c s) (o := (none, .int 1, sM Ln (dd_u I 148 (upd (I 148) 0 0)) L c s)) rfl rfl (dd_Af.ret rfl ?_) (by omega)
      show dd_Rn (e + 15) m_X11_noBoy (11, [.ref 148, .int a1], [.int 1], sM Ln (dd_u I 148 (upd (I 148) 0 0)) L c s) _
      refine dd_Rn.retK 2 (pc := 19) (ls := [.ref 148, .int a1]) (st := [.int 0]) (M := sM Ln (dd_u I 148 (upd (I 148) 0 0)) L c s) (o := (none, .int 0, sM Ln (dd_u I 148 (upd (I 148) 0 0)) L c s)) rfl rfl (dd_Af.ret rfl ?_) (by omega)
      show dd_Rn (e + 16) m_X11_by (11, [.ref 148, .int a1, .int a2], [.int 0, .ref 148], sM Ln (dd_u I 148 (upd (I 148) 0 0)) L c s) _
      refine dd_Rn.sub 3 (pc := 16) (ls := [.ref 148, .int a1, .int a2]) (st := [.int a2, .ref 148, .ref 148]) (M := sM Ln (dd_u I 148 (upd (I 148) 0 0)) L c s) (x := m_X11_noPart) (as := [.ref 148, .int a2]) (rest := [.ref 148]) rfl rfl rfl rfl ?_
      show dd_Rn (e + 15) m_X11_noPart (0, [.ref 148, .int a2], [], sM Ln (dd_u I 148 (upd (I 148) 0 0)) L c s) _
      refine dd_Rn.sub 3 (pc := 3) (ls := [.ref 148, .int a2]) (st := [.ref 148, .int 0, .int a2]) (M := sM Ln (dd_u I 148 (upd (I 148) 0 0)) L c s) (x := m_X11_parts) (as := [.ref 148]) (rest := [.int 0, .int a2]) rfl rfl rfl rfl ?_
      show dd_Rn (e + 14) m_X11_parts (0, [.ref 148], [], sM Ln (dd_u I 148 (upd (I 148) 0 0)) L c s) _
      refine dd_Rn.retK 4 (pc := 6) (ls := [.ref 148]) (st := [.int (I 149 0)]) (M := sM Ln (dd_u I 148 (upd (I 148) 0 0)) L c s) (o := (none, .int (I 149 0), sM Ln (dd_u I 148 (upd (I 148) 0 0)) L c s)) rfl rfl (dd_Af.ret rfl ?_) (by omega)
      show dd_Rn (e + 15) m_X11_noPart (6, [.ref 148, .int a2], [.int (I 149 0), .int 0, .int a2], sM Ln (dd_u I 148 (upd (I 148) 0 0)) L c s) _
      refine dd_Rn.sub 2 (pc := 8) (ls := [.ref 148, .int a2]) (st := [.int ((I 149 0) - 1), .int 0, .int a2]) (M := sM Ln (dd_u I 148 (upd (I 148) 0 0)) L c s) (x := m_X11_in) (as := [.int a2, .int 0, .int ((I 149 0) - 1)]) (rest := []) rfl rfl rfl rfl ?_
      show dd_Rn (e + 14) m_X11_in (0, [.int a2, .int 0, .int ((I 149 0) - 1)], [], sM Ln (dd_u I 148 (upd (I 148) 0 0)) L c s) _
      refine dd_Rn.ite 2 (c := a2 < 0) (A := (14, [.int a2, .int 0, .int ((I 149 0) - 1)], [], sM Ln (dd_u I 148 (upd (I 148) 0 0)) L c s)) (B := (5, [.int a2, .int 0, .int ((I 149 0) - 1)], [], sM Ln (dd_u I 148 (upd (I 148) 0 0)) L c s)) rfl (fun hc => ?_) (fun hc => ?_) (by omega)
      · have h := h.1 hc
        refine dd_Rn.retK 1 (pc := 15) (ls := [.int a2, .int 0, .int ((I 149 0) - 1)]) (st := [.int 0]) (M := sM Ln (dd_u I 148 (upd (I 148) 0 0)) L c s) (o := (none, .int 0, sM Ln (dd_u I 148 (upd (I 148) 0 0)) L c s)) rfl rfl (dd_Af.ret rfl ?_) (by omega)
        show dd_Rn (e + 15) m_X11_noPart (11, [.ref 148, .int a2], [.int 0], sM Ln (dd_u I 148 (upd (I 148) 0 0)) L c s) _
        refine dd_Rn.retK 3 (pc := 19) (ls := [.ref 148, .int a2]) (st := [.int 1]) (M := sM Ln (dd_u I 148 (upd (I 148) 0 0)) L c s) (o := (none, .int 1, sM Ln (dd_u I 148 (upd (I 148) 0 0)) L c s)) rfl rfl (dd_Af.ret rfl ?_) (by omega)
        show dd_Rn (e + 16) m_X11_by (19, [.ref 148, .int a1, .int a2], [.int 1, .ref 148], sM Ln (dd_u I 148 (upd (I 148) 0 0)) L c s) _
        refine dd_Rn.sub 4 (pc := 28) (ls := [.ref 148, .int a1, .int a2]) (st := [.int 1, .int 1, .ref 148]) (M := sM Ln (dd_u I 148 (upd (I 148) 0 0)) L c s) (x := m_X11_throwsIf) (as := [.ref 148, .int 1, .int 1]) (rest := []) rfl rfl rfl rfl ?_
        show dd_Rn (e + 15) m_X11_throwsIf (0, [.ref 148, .int 1, .int 1], [], sM Ln (dd_u I 148 (upd (I 148) 0 0)) L c s) _
        refine dd_Rn.retK 6 (pc := 10) (ls := [.ref 148, .int 1, .int 1]) (st := [.int 1]) (M := sM Ln (dd_u (dd_u I 148 (upd (I 148) 0 0)) 148 (upd (upd (I 148) 0 0) 0 1)) L c s) (o := (none, .int 1, sM Ln (dd_u (dd_u I 148 (upd (I 148) 0 0)) 148 (upd (upd (I 148) 0 0) 0 1)) L c s)) rfl rfl (dd_Af.ret rfl ?_) (by omega)
        show dd_Rn (e + 16) m_X11_by (31, [.ref 148, .int a1, .int a2], [.int 1], sM Ln (dd_u (dd_u I 148 (upd (I 148) 0 0)) 148 (upd (upd (I 148) 0 0) 0 1)) L c s) _
        exact dd_Rn.retK 3 (pc := 47) (ls := [.ref 148, .int a1, .int a2]) (st := [.int 0]) (M := sM Ln (dd_u (dd_u I 148 (upd (I 148) 0 0)) 148 (upd (upd (I 148) 0 0) 0 1)) L c s) (o := (none, .int 0, sM Ln (dd_u (dd_u I 148 (upd (I 148) 0 0)) 148 (upd (upd (I 148) 0 0) 0 1)) L c s)) rfl rfl h (by omega)
      · have h := h.2 hc
        refine dd_Rn.ite 2 (c := (I 149 0) - 1 < a2) (A := (14, [.int a2, .int 0, .int ((I 149 0) - 1)], [], sM Ln (dd_u I 148 (upd (I 148) 0 0)) L c s)) (B := (10, [.int a2, .int 0, .int ((I 149 0) - 1)], [], sM Ln (dd_u I 148 (upd (I 148) 0 0)) L c s)) rfl (fun hc => ?_) (fun hc => ?_) (by omega)
        · have h := h.1 hc
          refine dd_Rn.retK 1 (pc := 15) (ls := [.int a2, .int 0, .int ((I 149 0) - 1)]) (st := [.int 0]) (M := sM Ln (dd_u I 148 (upd (I 148) 0 0)) L c s) (o := (none, .int 0, sM Ln (dd_u I 148 (upd (I 148) 0 0)) L c s)) rfl rfl (dd_Af.ret rfl ?_) (by omega)
          show dd_Rn (e + 15) m_X11_noPart (11, [.ref 148, .int a2], [.int 0], sM Ln (dd_u I 148 (upd (I 148) 0 0)) L c s) _
          refine dd_Rn.retK 3 (pc := 19) (ls := [.ref 148, .int a2]) (st := [.int 1]) (M := sM Ln (dd_u I 148 (upd (I 148) 0 0)) L c s) (o := (none, .int 1, sM Ln (dd_u I 148 (upd (I 148) 0 0)) L c s)) rfl rfl (dd_Af.ret rfl ?_) (by omega)
          show dd_Rn (e + 16) m_X11_by (19, [.ref 148, .int a1, .int a2], [.int 1, .ref 148], sM Ln (dd_u I 148 (upd (I 148) 0 0)) L c s) _
          refine dd_Rn.sub 4 (pc := 28) (ls := [.ref 148, .int a1, .int a2]) (st := [.int 1, .int 1, .ref 148]) (M := sM Ln (dd_u I 148 (upd (I 148) 0 0)) L c s) (x := m_X11_throwsIf) (as := [.ref 148, .int 1, .int 1]) (rest := []) rfl rfl rfl rfl ?_
          show dd_Rn (e + 15) m_X11_throwsIf (0, [.ref 148, .int 1, .int 1], [], sM Ln (dd_u I 148 (upd (I 148) 0 0)) L c s) _
          refine dd_Rn.retK 6 (pc := 10) (ls := [.ref 148, .int 1, .int 1]) (st := [.int 1]) (M := sM Ln (dd_u (dd_u I 148 (upd (I 148) 0 0)) 148 (upd (upd (I 148) 0 0) 0 1)) L c s) (o := (none, .int 1, sM Ln (dd_u (dd_u I 148 (upd (I 148) 0 0)) 148 (upd (upd (I 148) 0 0) 0 1)) L c s)) rfl rfl (dd_Af.ret rfl ?_) (by omega)
          show dd_Rn (e + 16) m_X11_by (31, [.ref 148, .int a1, .int a2], [.int 1], sM Ln (dd_u (dd_u I 148 (upd (I 148) 0 0)) 148 (upd (upd (I 148) 0 0) 0 1)) L c s) _
          exact dd_Rn.retK 3 (pc := 47) (ls := [.ref 148, .int a1, .int a2]) (st := [.int 0]) (M := sM Ln (dd_u (dd_u I 148 (upd (I 148) 0 0)) 148 (upd (upd (I 148) 0 0) 0 1)) L c s) (o := (none, .int 0, sM Ln (dd_u (dd_u I 148 (upd (I 148) 0 0)) 148 (upd (upd (I 148) 0 0) 0 1)) L c s)) rfl rfl h (by omega)
        · have h := h.2 hc
          refine dd_Rn.retK 2 (pc := 15) (ls := [.int a2, .int 0, .int ((I 149 0) - 1)]) (st := [.int 1]) (M := sM Ln (dd_u I 148 (upd (I 148) 0 0)) L c s) (o := (none, .int 1, sM Ln (dd_u I 148 (upd (I 148) 0 0)) L c s)) rfl rfl (dd_Af.ret rfl ?_) (by omega)
          show dd_Rn (e + 15) m_X11_noPart (11, [.ref 148, .int a2], [.int 1], sM Ln (dd_u I 148 (upd (I 148) 0 0)) L c s) _
          refine dd_Rn.retK 2 (pc := 19) (ls := [.ref 148, .int a2]) (st := [.int 0]) (M := sM Ln (dd_u I 148 (upd (I 148) 0 0)) L c s) (o := (none, .int 0, sM Ln (dd_u I 148 (upd (I 148) 0 0)) L c s)) rfl rfl (dd_Af.ret rfl ?_) (by omega)
          show dd_Rn (e + 16) m_X11_by (19, [.ref 148, .int a1, .int a2], [.int 0, .ref 148], sM Ln (dd_u I 148 (upd (I 148) 0 0)) L c s) _
          refine dd_Rn.sub 3 (pc := 28) (ls := [.ref 148, .int a1, .int a2]) (st := [.int 1, .int 0, .ref 148]) (M := sM Ln (dd_u I 148 (upd (I 148) 0 0)) L c s) (x := m_X11_throwsIf) (as := [.ref 148, .int 0, .int 1]) (rest := []) rfl rfl rfl rfl ?_
          show dd_Rn (e + 15) m_X11_throwsIf (0, [.ref 148, .int 0, .int 1], [], sM Ln (dd_u I 148 (upd (I 148) 0 0)) L c s) _
          refine dd_Rn.retK 3 (pc := 10) (ls := [.ref 148, .int 0, .int 1]) (st := [.int 0]) (M := sM Ln (dd_u I 148 (upd (I 148) 0 0)) L c s) (o := (none, .int 0, sM Ln (dd_u I 148 (upd (I 148) 0 0)) L c s)) rfl rfl (dd_Af.ret rfl ?_) (by omega)
          show dd_Rn (e + 16) m_X11_by (31, [.ref 148, .int a1, .int a2], [.int 0], sM Ln (dd_u I 148 (upd (I 148) 0 0)) L c s) _
          refine dd_Rn.cI 4 (pc := 41) (ls := [.ref 148, .int a1, .int a2]) (st := [.int a2, .int a1, .ref 148]) (x := m_X11_soonBy) (as := [.ref 148, .int a1, .int a2]) (rest := []) rfl rfl rfl rfl h ?_
          intro x1 I1 L1 h
          show dd_Rn (e + 16) m_X11_by (44, [.ref 148, .int a1, .int a2], [.int x1], sM Ln I1 L1 c s) _
          refine dd_Rn.sub 0 (pc := 44) (ls := [.ref 148, .int a1, .int a2]) (st := [.int x1]) (M := sM Ln I1 L1 c s) (x := m_X11_orNone) (as := [.int x1]) (rest := []) rfl rfl rfl rfl ?_
          show dd_Rn (e + 15) m_X11_orNone (0, [.int x1], [], sM Ln I1 L1 c s) _
          refine dd_Rn.ite 2 (c := x1 = 101) (A := (6, [.int x1], [], sM Ln I1 L1 c s)) (B := (10, [.int x1], [], sM Ln I1 L1 c s)) rfl (fun hc => ?_) (fun hc => ?_) (by omega)
          · have h := h.1 hc
            refine dd_Rn.retK 2 (pc := 11) (ls := [.int x1]) (st := [.int (-1)]) (M := sM Ln I1 L1 c s) (o := (none, .int (-1), sM Ln I1 L1 c s)) rfl rfl (dd_Af.ret rfl ?_) (by omega)
            show dd_Rn (e + 16) m_X11_by (47, [.ref 148, .int a1, .int a2], [.int (-1)], sM Ln I1 L1 c s) _
            exact dd_Rn.retK 0 (pc := 47) (ls := [.ref 148, .int a1, .int a2]) (st := [.int (-1)]) (M := sM Ln I1 L1 c s) (o := (none, .int (-1), sM Ln I1 L1 c s)) rfl rfl h (by omega)
          · have h := h.2 hc
            refine dd_Rn.retK 1 (pc := 11) (ls := [.int x1]) (st := [.int x1]) (M := sM Ln I1 L1 c s) (o := (none, .int x1, sM Ln I1 L1 c s)) rfl rfl (dd_Af.ret rfl ?_) (by omega)
            show dd_Rn (e + 16) m_X11_by (47, [.ref 148, .int a1, .int a2], [.int x1], sM Ln I1 L1 c s) _
            exact dd_Rn.retK 0 (pc := 47) (ls := [.ref 148, .int a1, .int a2]) (st := [.int x1]) (M := sM Ln I1 L1 c s) (o := (none, .int x1, sM Ln I1 L1 c s)) rfl rfl h (by omega)

theorem w_X11_best_0 {Ln d c s : Nat} {I : Nat → Nat → Int32} {L : Nat → Nat → Int64} {Q : dd_O → Prop} {a1 : Int32} (hd : 28 ≤ d) (h : ((a1 < 0 → Q (none, .int 0, sM Ln (dd_u (dd_u I 148 (upd (I 148) 0 0)) 148 (upd (upd (I 148) 0 0) 0 1)) L c s)) ∧ (¬ (a1 < 0) → (((I 149 1) - 1 < a1 → Q (none, .int 0, sM Ln (dd_u (dd_u I 148 (upd (I 148) 0 0)) 148 (upd (upd (I 148) 0 0) 0 1)) L c s)) ∧ (¬ ((I 149 1) - 1 < a1) → dd_Rn d m_X11_best (28, [.ref 148, .int a1, .int (-1), .int 101, .int 0, .null], [], sM Ln (dd_u I 148 (upd (I 148) 0 0)) L c s) Q))))) : dd_Ev d m_X11_best [.ref 148, .int a1] (sM Ln I L c s) Q := by
  obtain ⟨e, rfl⟩ : ∃ e, d = e + 16 := ⟨d - 16, by omega⟩
  show dd_Rn (e + 16) m_X11_best (0, [.ref 148, .int a1, .null, .null, .null, .null], [], sM Ln I L c s) Q
  refine dd_Rn.sub 6 (pc := 8) (ls := [.ref 148, .int a1, .null, .null, .null, .null]) (st := [.int a1, .ref 148, .ref 148]) (M := sM Ln (dd_u I 148 (upd (I 148) 0 0)) L c s) (x := m_X11_noBoy) (as := [.ref 148, .int a1]) (rest := [.ref 148]) rfl rfl rfl rfl ?_
  show dd_Rn (e + 15) m_X11_noBoy (0, [.ref 148, .int a1], [], sM Ln (dd_u I 148 (upd (I 148) 0 0)) L c s) _
  refine dd_Rn.sub 3 (pc := 3) (ls := [.ref 148, .int a1]) (st := [.ref 148, .int 0, .int a1]) (M := sM Ln (dd_u I 148 (upd (I 148) 0 0)) L c s) (x := m_X11_boys) (as := [.ref 148]) (rest := [.int 0, .int a1]) rfl rfl rfl rfl ?_
  show dd_Rn (e + 14) m_X11_boys (0, [.ref 148], [], sM Ln (dd_u I 148 (upd (I 148) 0 0)) L c s) _
  refine dd_Rn.retK 4 (pc := 6) (ls := [.ref 148]) (st := [.int (I 149 1)]) (M := sM Ln (dd_u I 148 (upd (I 148) 0 0)) L c s) (o := (none, .int (I 149 1), sM Ln (dd_u I 148 (upd (I 148) 0 0)) L c s)) rfl rfl (dd_Af.ret rfl ?_) (by omega)
  show dd_Rn (e + 15) m_X11_noBoy (6, [.ref 148, .int a1], [.int (I 149 1), .int 0, .int a1], sM Ln (dd_u I 148 (upd (I 148) 0 0)) L c s) _
  refine dd_Rn.sub 2 (pc := 8) (ls := [.ref 148, .int a1]) (st := [.int ((I 149 1) - 1), .int 0, .int a1]) (M := sM Ln (dd_u I 148 (upd (I 148) 0 0)) L c s) (x := m_X11_in) (as := [.int a1, .int 0, .int ((I 149 1) - 1)]) (rest := []) rfl rfl rfl rfl ?_
  show dd_Rn (e + 14) m_X11_in (0, [.int a1, .int 0, .int ((I 149 1) - 1)], [], sM Ln (dd_u I 148 (upd (I 148) 0 0)) L c s) _
  refine dd_Rn.ite 2 (c := a1 < 0) (A := (14, [.int a1, .int 0, .int ((I 149 1) - 1)], [], sM Ln (dd_u I 148 (upd (I 148) 0 0)) L c s)) (B := (5, [.int a1, .int 0, .int ((I 149 1) - 1)], [], sM Ln (dd_u I 148 (upd (I 148) 0 0)) L c s)) rfl (fun hc => ?_) (fun hc => ?_) (by omega)
  · have h := h.1 hc
    refine dd_Rn.retK 1 (pc := 15) (ls := [.int a1, .int 0, .int ((I 149 1) - 1)]) (st := [.int 0]) (M := sM Ln (dd_u I 148 (upd (I 148) 0 0)) L c s) (o := (none, .int 0, sM Ln (dd_u I 148 (upd (I 148) 0 0)) L c s)) rfl rfl (dd_Af.ret rfl ?_) (by omega)
    show dd_Rn (e + 15) m_X11_noBoy (11, [.ref 148, .int a1], [.int 0], sM Ln (dd_u I 148 (upd (I 148) 0 0)) L c s) _
    refine dd_Rn.retK 3 (pc := 19) (ls := [.ref 148, .int a1]) (st := [.int 1]) (M := sM Ln (dd_u I 148 (upd (I 148) 0 0)) L c s) (o := (none, .int 1, sM Ln (dd_u I 148 (upd (I 148) 0 0)) L c s)) rfl rfl (dd_Af.ret rfl ?_) (by omega)
    show dd_Rn (e + 16) m_X11_best (11, [.ref 148, .int a1, .null, .null, .null, .null], [.int 1, .ref 148], sM Ln (dd_u I 148 (upd (I 148) 0 0)) L c s) _
    refine dd_Rn.sub 1 (pc := 12) (ls := [.ref 148, .int a1, .null, .null, .null, .null]) (st := [.int 1, .int 1, .ref 148]) (M := sM Ln (dd_u I 148 (upd (I 148) 0 0)) L c s) (x := m_X11_throwsIf) (as := [.ref 148, .int 1, .int 1]) (rest := []) rfl rfl rfl rfl ?_
    show dd_Rn (e + 15) m_X11_throwsIf (0, [.ref 148, .int 1, .int 1], [], sM Ln (dd_u I 148 (upd (I 148) 0 0)) L c s) _
    refine dd_Rn.retK 6 (pc := 10) (ls := [.ref 148, .int 1, .int 1]) (st := [.int 1]) (M := sM Ln (dd_u (dd_u I 148 (upd (I 148) 0 0)) 148 (upd (upd (I 148) 0 0) 0 1)) L c s) (o := (none, .int 1, sM Ln (dd_u (dd_u I 148 (upd (I 148) 0 0)) 148 (upd (upd (I 148) 0 0) 0 1)) L c s)) rfl rfl (dd_Af.ret rfl ?_) (by omega)
    show dd_Rn (e + 16) m_X11_best (15, [.ref 148, .int a1, .null, .null, .null, .null], [.int 1], sM Ln (dd_u (dd_u I 148 (upd (I 148) 0 0)) 148 (upd (upd (I 148) 0 0) 0 1)) L c s) _
    exact dd_Rn.retK 2 (pc := 19) (ls := [.ref 148, .int a1, .null, .null, .null, .null]) (st := [.int 0]) (M := sM Ln (dd_u (dd_u I 148 (upd (I 148) 0 0)) 148 (upd (upd (I 148) 0 0) 0 1)) L c s) (o := (none, .int 0, sM Ln (dd_u (dd_u I 148 (upd (I 148) 0 0)) 148 (upd (upd (I 148) 0 0) 0 1)) L c s)) rfl rfl h (by omega)
  · have h := h.2 hc
    refine dd_Rn.ite 2 (c := (I 149 1) - 1 < a1) (A := (14, [.int a1, .int 0, .int ((I 149 1) - 1)], [], sM Ln (dd_u I 148 (upd (I 148) 0 0)) L c s)) (B := (10, [.int a1, .int 0, .int ((I 149 1) - 1)], [], sM Ln (dd_u I 148 (upd (I 148) 0 0)) L c s)) rfl (fun hc => ?_) (fun hc => ?_) (by omega)
    · have h := h.1 hc
      refine dd_Rn.retK 1 (pc := 15) (ls := [.int a1, .int 0, .int ((I 149 1) - 1)]) (st := [.int 0]) (M := sM Ln (dd_u I 148 (upd (I 148) 0 0)) L c s) (o := (none, .int 0, sM Ln (dd_u I 148 (upd (I 148) 0 0)) L c s)) rfl rfl (dd_Af.ret rfl ?_) (by omega)
      show dd_Rn (e + 15) m_X11_noBoy (11, [.ref 148, .int a1], [.int 0], sM Ln (dd_u I 148 (upd (I 148) 0 0)) L c s) _
      refine dd_Rn.retK 3 (pc := 19) (ls := [.ref 148, .int a1]) (st := [.int 1]) (M := sM Ln (dd_u I 148 (upd (I 148) 0 0)) L c s) (o := (none, .int 1, sM Ln (dd_u I 148 (upd (I 148) 0 0)) L c s)) rfl rfl (dd_Af.ret rfl ?_) (by omega)
      show dd_Rn (e + 16) m_X11_best (11, [.ref 148, .int a1, .null, .null, .null, .null], [.int 1, .ref 148], sM Ln (dd_u I 148 (upd (I 148) 0 0)) L c s) _
      refine dd_Rn.sub 1 (pc := 12) (ls := [.ref 148, .int a1, .null, .null, .null, .null]) (st := [.int 1, .int 1, .ref 148]) (M := sM Ln (dd_u I 148 (upd (I 148) 0 0)) L c s) (x := m_X11_throwsIf) (as := [.ref 148, .int 1, .int 1]) (rest := []) rfl rfl rfl rfl ?_
      show dd_Rn (e + 15) m_X11_throwsIf (0, [.ref 148, .int 1, .int 1], [], sM Ln (dd_u I 148 (upd (I 148) 0 0)) L c s) _
      refine dd_Rn.retK 6 (pc := 10) (ls := [.ref 148, .int 1, .int 1]) (st := [.int 1]) (M := sM Ln (dd_u (dd_u I 148 (upd (I 148) 0 0)) 148 (upd (upd (I 148) 0 0) 0 1)) L c s) (o := (none, .int 1, sM Ln (dd_u (dd_u I 148 (upd (I 148) 0 0)) 148 (upd (upd (I 148) 0 0) 0 1)) L c s)) rfl rfl (dd_Af.ret rfl ?_) (by omega)
      show dd_Rn (e + 16) m_X11_best (15, [.ref 148, .int a1, .null, .null, .null, .null], [.int 1], sM Ln (dd_u (dd_u I 148 (upd (I 148) 0 0)) 148 (upd (upd (I 148) 0 0) 0 1)) L c s) _
      exact dd_Rn.retK 2 (pc := 19) (ls := [.ref 148, .int a1, .null, .null, .null, .null]) (st := [.int 0]) (M := sM Ln (dd_u (dd_u I 148 (upd (I 148) 0 0)) 148 (upd (upd (I 148) 0 0) 0 1)) L c s) (o := (none, .int 0, sM Ln (dd_u (dd_u I 148 (upd (I 148) 0 0)) 148 (upd (upd (I 148) 0 0) 0 1)) L c s)) rfl rfl h (by omega)
    · have h := h.2 hc
      refine dd_Rn.retK 2 (pc := 15) (ls := [.int a1, .int 0, .int ((I 149 1) - 1)]) (st := [.int 1]) (M := sM Ln (dd_u I 148 (upd (I 148) 0 0)) L c s) (o := (none, .int 1, sM Ln (dd_u I 148 (upd (I 148) 0 0)) L c s)) rfl rfl (dd_Af.ret rfl ?_) (by omega)
      show dd_Rn (e + 15) m_X11_noBoy (11, [.ref 148, .int a1], [.int 1], sM Ln (dd_u I 148 (upd (I 148) 0 0)) L c s) _
      refine dd_Rn.retK 2 (pc := 19) (ls := [.ref 148, .int a1]) (st := [.int 0]) (M := sM Ln (dd_u I 148 (upd (I 148) 0 0)) L c s) (o := (none, .int 0, sM Ln (dd_u I 148 (upd (I 148) 0 0)) L c s)) rfl rfl (dd_Af.ret rfl ?_) (by omega)
      show dd_Rn (e + 16) m_X11_best (11, [.ref 148, .int a1, .null, .null, .null, .null], [.int 0, .ref 148], sM Ln (dd_u I 148 (upd (I 148) 0 0)) L c s) _
      refine dd_Rn.sub 1 (pc := 12) (ls := [.ref 148, .int a1, .null, .null, .null, .null]) (st := [.int 1, .int 0, .ref 148]) (M := sM Ln (dd_u I 148 (upd (I 148) 0 0)) L c s) (x := m_X11_throwsIf) (as := [.ref 148, .int 0, .int 1]) (rest := []) rfl rfl rfl rfl ?_
      show dd_Rn (e + 15) m_X11_throwsIf (0, [.ref 148, .int 0, .int 1], [], sM Ln (dd_u I 148 (upd (I 148) 0 0)) L c s) _
      refine dd_Rn.retK 3 (pc := 10) (ls := [.ref 148, .int 0, .int 1]) (st := [.int 0]) (M := sM Ln (dd_u I 148 (upd (I 148) 0 0)) L c s) (o := (none, .int 0, sM Ln (dd_u I 148 (upd (I 148) 0 0)) L c s)) rfl rfl (dd_Af.ret rfl ?_) (by omega)
      show dd_Rn (e + 16) m_X11_best (15, [.ref 148, .int a1, .null, .null, .null, .null], [.int 0], sM Ln (dd_u I 148 (upd (I 148) 0 0)) L c s) _
      exact dd_Rn.go 7 (cf' := (28, [.ref 148, .int a1, .int (-1), .int 101, .int 0, .null], [], sM Ln (dd_u I 148 (upd (I 148) 0 0)) L c s)) rfl h (by omega)

theorem w_X11_best_28 {Ln d c s : Nat} {I : Nat → Nat → Int32} {L : Nat → Nat → Int64} {Q : dd_O → Prop} {a1 a2 a3 a4 : Int32} {a5 : Value} (hd : 28 ≤ d) (h : ((I 149 0 ≤ a4 → Q (none, .int a2, sM Ln I L c s)) ∧ (¬ (I 149 0 ≤ a4) → dd_Ev (d - 1) m_X11_soonBy [.ref 148, .int a1, .int a4] (sM Ln I L c s) (dd_RI Ln c s (fun x1 I1 L1 => ((a3 ≤ x1 → dd_Rn d m_X11_best (28, [.ref 148, .int a1, .int a2, .int (if x1 < a3 then x1 else a3), .int (a4 + 1), .int x1], [], sM Ln I1 L1 c s) Q) ∧ (¬ (a3 ≤ x1) → dd_Rn d m_X11_best (28, [.ref 148, .int a1, .int a4, .int (if x1 < a3 then x1 else a3), .int (a4 + 1), .int x1], [], sM Ln I1 L1 c s) Q))))))) : dd_Rn d m_X11_best (28, [.ref 148, .int a1, .int a2, .int a3, .int a4, a5], [], sM Ln I L c s) Q := by
  obtain ⟨e, rfl⟩ : ∃ e, d = e + 16 := ⟨d - 16, by omega⟩
  refine dd_Rn.sub 2 (pc := 31) (ls := [.ref 148, .int a1, .int a2, .int a3, .int a4, a5]) (st := [.ref 148, .int a4]) (M := sM Ln I L c s) (x := m_X11_parts) (as := [.ref 148]) (rest := [.int a4]) rfl rfl rfl rfl ?_
  show dd_Rn (e + 15) m_X11_parts (0, [.ref 148], [], sM Ln I L c s) _
  refine dd_Rn.retK 4 (pc := 6) (ls := [.ref 148]) (st := [.int (I 149 0)]) (M := sM Ln I L c s) (o := (none, .int (I 149 0), sM Ln I L c s)) rfl rfl (dd_Af.ret rfl ?_) (by omega)
  show dd_Rn (e + 16) m_X11_best (34, [.ref 148, .int a1, .int a2, .int a3, .int a4, a5], [.int (I 149 0), .int a4], sM Ln I L c s) _
  refine dd_Rn.ite 0 (c := I 149 0 ≤ a4) (A := (72, [.ref 148, .int a1, .int a2, .int a3, .int a4, a5], [], sM Ln I L c s)) (B := (37, [.ref 148, .int a1, .int a2, .int a3, .int a4, a5], [], sM Ln I L c s)) rfl (fun hc => ?_) (fun hc => ?_) (by omega)
  · have h := h.1 hc
    exact dd_Rn.retK 1 (pc := 73) (ls := [.ref 148, .int a1, .int a2, .int a3, .int a4, a5]) (st := [.int a2]) (M := sM Ln I L c s) (o := (none, .int a2, sM Ln I L c s)) rfl rfl h (by omega)
  · have h := h.2 hc
    refine dd_Rn.cI 3 (pc := 41) (ls := [.ref 148, .int a1, .int a2, .int a3, .int a4, a5]) (st := [.int a4, .int a1, .ref 148]) (x := m_X11_soonBy) (as := [.ref 148, .int a1, .int a4]) (rest := []) rfl rfl rfl rfl h ?_
    intro x1 I1 L1 h
    show dd_Rn (e + 16) m_X11_best (44, [.ref 148, .int a1, .int a2, .int a3, .int a4, a5], [.int x1], sM Ln I1 L1 c s) _
    refine dd_Rn.ite 3 (c := a3 ≤ x1) (A := (57, [.ref 148, .int a1, .int a2, .int a3, .int a4, .int x1], [], sM Ln I1 L1 c s)) (B := (52, [.ref 148, .int a1, .int a2, .int a3, .int a4, .int x1], [], sM Ln I1 L1 c s)) rfl (fun hc => ?_) (fun hc => ?_) (by omega)
    · have h := h.1 hc
      exact dd_Rn.go 8 (cf' := (28, [.ref 148, .int a1, .int a2, .int (if x1 < a3 then x1 else a3), .int (a4 + 1), .int x1], [], sM Ln I1 L1 c s)) rfl h (by omega)
    · have h := h.2 hc
      exact dd_Rn.go 9 (cf' := (28, [.ref 148, .int a1, .int a4, .int (if x1 < a3 then x1 else a3), .int (a4 + 1), .int x1], [], sM Ln I1 L1 c s)) rfl h (by omega)

theorem w_X11_all_0 {Ln d c s : Nat} {I : Nat → Nat → Int32} {L : Nat → Nat → Int64} {Q : dd_O → Prop} (hd : 28 ≤ d) (h : dd_Ev (d - 1) m_X11_keepsAll [.ref 148] (sM Ln (dd_u I 148 (upd (I 148) 0 0)) L c s) (dd_RV Ln c s (fun I1 L1 => dd_Ev (d - 1) m_X11_soonFor [.ref 148, .int (((1 : Int32) <<< ((I1 149 1) &&& 31)) - 1)] (sM Ln I1 L1 c s) (dd_RI Ln c s (fun x2 I2 L2 => ((x2 = 101 → Q (none, .int (-1), sM Ln I2 L2 c s)) ∧ (¬ (x2 = 101) → Q (none, .int x2, sM Ln I2 L2 c s)))))))) : dd_Ev d m_X11_all [.ref 148] (sM Ln I L c s) Q := by
  obtain ⟨e, rfl⟩ : ∃ e, d = e + 16 := ⟨d - 16, by omega⟩
  show dd_Rn (e + 16) m_X11_all (0, [.ref 148], [], sM Ln I L c s) Q
  refine dd_Rn.cV 4 (pc := 6) (ls := [.ref 148]) (st := [.ref 148]) (x := m_X11_keepsAll) (as := [.ref 148]) (rest := []) rfl rfl rfl rfl h ?_
  intro I1 L1 h
  show dd_Rn (e + 16) m_X11_all (9, [.ref 148], [], sM Ln I1 L1 c s) _
  refine dd_Rn.sub 2 (pc := 11) (ls := [.ref 148]) (st := [.ref 148, .ref 148]) (M := sM Ln I1 L1 c s) (x := m_X11_allBoys) (as := [.ref 148]) (rest := [.ref 148]) rfl rfl rfl rfl ?_
  show dd_Rn (e + 15) m_X11_allBoys (0, [.ref 148], [], sM Ln I1 L1 c s) _
  refine dd_Rn.sub 2 (pc := 2) (ls := [.ref 148]) (st := [.ref 148, .int 1]) (M := sM Ln I1 L1 c s) (x := m_X11_boys) (as := [.ref 148]) (rest := [.int 1]) rfl rfl rfl rfl ?_
  show dd_Rn (e + 14) m_X11_boys (0, [.ref 148], [], sM Ln I1 L1 c s) _
  refine dd_Rn.retK 4 (pc := 6) (ls := [.ref 148]) (st := [.int (I1 149 1)]) (M := sM Ln I1 L1 c s) (o := (none, .int (I1 149 1), sM Ln I1 L1 c s)) rfl rfl (dd_Af.ret rfl ?_) (by omega)
  show dd_Rn (e + 15) m_X11_allBoys (5, [.ref 148], [.int (I1 149 1), .int 1], sM Ln I1 L1 c s) _
  refine dd_Rn.retK 3 (pc := 8) (ls := [.ref 148]) (st := [.int (((1 : Int32) <<< ((I1 149 1) &&& 31)) - 1)]) (M := sM Ln I1 L1 c s) (o := (none, .int (((1 : Int32) <<< ((I1 149 1) &&& 31)) - 1), sM Ln I1 L1 c s)) rfl rfl (dd_Af.ret rfl ?_) (by omega)
  show dd_Rn (e + 16) m_X11_all (14, [.ref 148], [.int (((1 : Int32) <<< ((I1 149 1) &&& 31)) - 1), .ref 148], sM Ln I1 L1 c s) _
  refine dd_Rn.cI 0 (pc := 14) (ls := [.ref 148]) (st := [.int (((1 : Int32) <<< ((I1 149 1) &&& 31)) - 1), .ref 148]) (x := m_X11_soonFor) (as := [.ref 148, .int (((1 : Int32) <<< ((I1 149 1) &&& 31)) - 1)]) (rest := []) rfl rfl rfl rfl h ?_
  intro x2 I2 L2 h
  show dd_Rn (e + 16) m_X11_all (17, [.ref 148], [.int x2], sM Ln I2 L2 c s) _
  refine dd_Rn.sub 0 (pc := 17) (ls := [.ref 148]) (st := [.int x2]) (M := sM Ln I2 L2 c s) (x := m_X11_orNone) (as := [.int x2]) (rest := []) rfl rfl rfl rfl ?_
  show dd_Rn (e + 15) m_X11_orNone (0, [.int x2], [], sM Ln I2 L2 c s) _
  refine dd_Rn.ite 2 (c := x2 = 101) (A := (6, [.int x2], [], sM Ln I2 L2 c s)) (B := (10, [.int x2], [], sM Ln I2 L2 c s)) rfl (fun hc => ?_) (fun hc => ?_) (by omega)
  · have h := h.1 hc
    refine dd_Rn.retK 2 (pc := 11) (ls := [.int x2]) (st := [.int (-1)]) (M := sM Ln I2 L2 c s) (o := (none, .int (-1), sM Ln I2 L2 c s)) rfl rfl (dd_Af.ret rfl ?_) (by omega)
    show dd_Rn (e + 16) m_X11_all (20, [.ref 148], [.int (-1)], sM Ln I2 L2 c s) _
    exact dd_Rn.retK 0 (pc := 20) (ls := [.ref 148]) (st := [.int (-1)]) (M := sM Ln I2 L2 c s) (o := (none, .int (-1), sM Ln I2 L2 c s)) rfl rfl h (by omega)
  · have h := h.2 hc
    refine dd_Rn.retK 1 (pc := 11) (ls := [.int x2]) (st := [.int x2]) (M := sM Ln I2 L2 c s) (o := (none, .int x2, sM Ln I2 L2 c s)) rfl rfl (dd_Af.ret rfl ?_) (by omega)
    show dd_Rn (e + 16) m_X11_all (20, [.ref 148], [.int x2], sM Ln I2 L2 c s) _
    exact dd_Rn.retK 0 (pc := 20) (ls := [.ref 148]) (st := [.int x2]) (M := sM Ln I2 L2 c s) (o := (none, .int x2, sM Ln I2 L2 c s)) rfl rfl h (by omega)

theorem w_X11_ahead_0 {Ln d c s : Nat} {I : Nat → Nat → Int32} {L : Nat → Nat → Int64} {Q : dd_O → Prop} {a1 a2 : Int32} (hd : 28 ≤ d) (h : ((a1 < 0 → Q (none, .int 0, sM Ln (dd_u (dd_u I 148 (upd (I 148) 0 0)) 148 (upd (upd (I 148) 0 0) 0 1)) L c s)) ∧ (¬ (a1 < 0) → (((I 149 1) - 1 < a1 → Q (none, .int 0, sM Ln (dd_u (dd_u I 148 (upd (I 148) 0 0)) 148 (upd (upd (I 148) 0 0) 0 1)) L c s)) ∧ (¬ ((I 149 1) - 1 < a1) → ((a2 < 0 → Q (none, .int 0, sM Ln (dd_u (dd_u I 148 (upd (I 148) 0 0)) 148 (upd (upd (I 148) 0 0) 0 2)) L c s)) ∧ (¬ (a2 < 0) → (((100 : Int32) < a2 → Q (none, .int 0, sM Ln (dd_u (dd_u I 148 (upd (I 148) 0 0)) 148 (upd (upd (I 148) 0 0) 0 2)) L c s)) ∧ (¬ ((100 : Int32) < a2) → dd_Ev (d - 1) m_X11_aheadOf [.ref 148, .int a1, .int a2] (sM Ln (dd_u I 148 (upd (I 148) 0 0)) L c s) (dd_RI Ln c s (fun x1 I1 L1 => Q (none, .int x1, sM Ln I1 L1 c s)))))))))))) : dd_Ev d m_X11_ahead [.ref 148, .int a1, .int a2] (sM Ln I L c s) Q := by
  obtain ⟨e, rfl⟩ : ∃ e, d = e + 16 := ⟨d - 16, by omega⟩
  show dd_Rn (e + 16) m_X11_ahead (0, [.ref 148, .int a1, .int a2], [], sM Ln I L c s) Q
  refine dd_Rn.sub 6 (pc := 8) (ls := [.ref 148, .int a1, .int a2]) (st := [.int a1, .ref 148, .ref 148]) (M := sM Ln (dd_u I 148 (upd (I 148) 0 0)) L c s) (x := m_X11_noBoy) (as := [.ref 148, .int a1]) (rest := [.ref 148]) rfl rfl rfl rfl ?_
  show dd_Rn (e + 15) m_X11_noBoy (0, [.ref 148, .int a1], [], sM Ln (dd_u I 148 (upd (I 148) 0 0)) L c s) _
  refine dd_Rn.sub 3 (pc := 3) (ls := [.ref 148, .int a1]) (st := [.ref 148, .int 0, .int a1]) (M := sM Ln (dd_u I 148 (upd (I 148) 0 0)) L c s) (x := m_X11_boys) (as := [.ref 148]) (rest := [.int 0, .int a1]) rfl rfl rfl rfl ?_
  show dd_Rn (e + 14) m_X11_boys (0, [.ref 148], [], sM Ln (dd_u I 148 (upd (I 148) 0 0)) L c s) _
  refine dd_Rn.retK 4 (pc := 6) (ls := [.ref 148]) (st := [.int (I 149 1)]) (M := sM Ln (dd_u I 148 (upd (I 148) 0 0)) L c s) (o := (none, .int (I 149 1), sM Ln (dd_u I 148 (upd (I 148) 0 0)) L c s)) rfl rfl (dd_Af.ret rfl ?_) (by omega)
  show dd_Rn (e + 15) m_X11_noBoy (6, [.ref 148, .int a1], [.int (I 149 1), .int 0, .int a1], sM Ln (dd_u I 148 (upd (I 148) 0 0)) L c s) _
  refine dd_Rn.sub 2 (pc := 8) (ls := [.ref 148, .int a1]) (st := [.int ((I 149 1) - 1), .int 0, .int a1]) (M := sM Ln (dd_u I 148 (upd (I 148) 0 0)) L c s) (x := m_X11_in) (as := [.int a1, .int 0, .int ((I 149 1) - 1)]) (rest := []) rfl rfl rfl rfl ?_
  show dd_Rn (e + 14) m_X11_in (0, [.int a1, .int 0, .int ((I 149 1) - 1)], [], sM Ln (dd_u I 148 (upd (I 148) 0 0)) L c s) _
  refine dd_Rn.ite 2 (c := a1 < 0) (A := (14, [.int a1, .int 0, .int ((I 149 1) - 1)], [], sM Ln (dd_u I 148 (upd (I 148) 0 0)) L c s)) (B := (5, [.int a1, .int 0, .int ((I 149 1) - 1)], [], sM Ln (dd_u I 148 (upd (I 148) 0 0)) L c s)) rfl (fun hc => ?_) (fun hc => ?_) (by omega)
  · have h := h.1 hc
    refine dd_Rn.retK 1 (pc := 15) (ls := [.int a1, .int 0, .int ((I 149 1) - 1)]) (st := [.int 0]) (M := sM Ln (dd_u I 148 (upd (I 148) 0 0)) L c s) (o := (none, .int 0, sM Ln (dd_u I 148 (upd (I 148) 0 0)) L c s)) rfl rfl (dd_Af.ret rfl ?_) (by omega)
    show dd_Rn (e + 15) m_X11_noBoy (11, [.ref 148, .int a1], [.int 0], sM Ln (dd_u I 148 (upd (I 148) 0 0)) L c s) _
    refine dd_Rn.retK 3 (pc := 19) (ls := [.ref 148, .int a1]) (st := [.int 1]) (M := sM Ln (dd_u I 148 (upd (I 148) 0 0)) L c s) (o := (none, .int 1, sM Ln (dd_u I 148 (upd (I 148) 0 0)) L c s)) rfl rfl (dd_Af.ret rfl ?_) (by omega)
    show dd_Rn (e + 16) m_X11_ahead (11, [.ref 148, .int a1, .int a2], [.int 1, .ref 148], sM Ln (dd_u I 148 (upd (I 148) 0 0)) L c s) _
    refine dd_Rn.sub 1 (pc := 12) (ls := [.ref 148, .int a1, .int a2]) (st := [.int 1, .int 1, .ref 148]) (M := sM Ln (dd_u I 148 (upd (I 148) 0 0)) L c s) (x := m_X11_throwsIf) (as := [.ref 148, .int 1, .int 1]) (rest := []) rfl rfl rfl rfl ?_
    show dd_Rn (e + 15) m_X11_throwsIf (0, [.ref 148, .int 1, .int 1], [], sM Ln (dd_u I 148 (upd (I 148) 0 0)) L c s) _
    refine dd_Rn.retK 6 (pc := 10) (ls := [.ref 148, .int 1, .int 1]) (st := [.int 1]) (M := sM Ln (dd_u (dd_u I 148 (upd (I 148) 0 0)) 148 (upd (upd (I 148) 0 0) 0 1)) L c s) (o := (none, .int 1, sM Ln (dd_u (dd_u I 148 (upd (I 148) 0 0)) 148 (upd (upd (I 148) 0 0) 0 1)) L c s)) rfl rfl (dd_Af.ret rfl ?_) (by omega)
    show dd_Rn (e + 16) m_X11_ahead (15, [.ref 148, .int a1, .int a2], [.int 1], sM Ln (dd_u (dd_u I 148 (upd (I 148) 0 0)) 148 (upd (upd (I 148) 0 0) 0 1)) L c s) _
    exact dd_Rn.retK 3 (pc := 40) (ls := [.ref 148, .int a1, .int a2]) (st := [.int 0]) (M := sM Ln (dd_u (dd_u I 148 (upd (I 148) 0 0)) 148 (upd (upd (I 148) 0 0) 0 1)) L c s) (o := (none, .int 0, sM Ln (dd_u (dd_u I 148 (upd (I 148) 0 0)) 148 (upd (upd (I 148) 0 0) 0 1)) L c s)) rfl rfl h (by omega)
  · have h := h.2 hc
    refine dd_Rn.ite 2 (c := (I 149 1) - 1 < a1) (A := (14, [.int a1, .int 0, .int ((I 149 1) - 1)], [], sM Ln (dd_u I 148 (upd (I 148) 0 0)) L c s)) (B := (10, [.int a1, .int 0, .int ((I 149 1) - 1)], [], sM Ln (dd_u I 148 (upd (I 148) 0 0)) L c s)) rfl (fun hc => ?_) (fun hc => ?_) (by omega)
    · have h := h.1 hc
      refine dd_Rn.retK 1 (pc := 15) (ls := [.int a1, .int 0, .int ((I 149 1) - 1)]) (st := [.int 0]) (M := sM Ln (dd_u I 148 (upd (I 148) 0 0)) L c s) (o := (none, .int 0, sM Ln (dd_u I 148 (upd (I 148) 0 0)) L c s)) rfl rfl (dd_Af.ret rfl ?_) (by omega)
      show dd_Rn (e + 15) m_X11_noBoy (11, [.ref 148, .int a1], [.int 0], sM Ln (dd_u I 148 (upd (I 148) 0 0)) L c s) _
      refine dd_Rn.retK 3 (pc := 19) (ls := [.ref 148, .int a1]) (st := [.int 1]) (M := sM Ln (dd_u I 148 (upd (I 148) 0 0)) L c s) (o := (none, .int 1, sM Ln (dd_u I 148 (upd (I 148) 0 0)) L c s)) rfl rfl (dd_Af.ret rfl ?_) (by omega)
      show dd_Rn (e + 16) m_X11_ahead (11, [.ref 148, .int a1, .int a2], [.int 1, .ref 148], sM Ln (dd_u I 148 (upd (I 148) 0 0)) L c s) _
      refine dd_Rn.sub 1 (pc := 12) (ls := [.ref 148, .int a1, .int a2]) (st := [.int 1, .int 1, .ref 148]) (M := sM Ln (dd_u I 148 (upd (I 148) 0 0)) L c s) (x := m_X11_throwsIf) (as := [.ref 148, .int 1, .int 1]) (rest := []) rfl rfl rfl rfl ?_
      show dd_Rn (e + 15) m_X11_throwsIf (0, [.ref 148, .int 1, .int 1], [], sM Ln (dd_u I 148 (upd (I 148) 0 0)) L c s) _
      refine dd_Rn.retK 6 (pc := 10) (ls := [.ref 148, .int 1, .int 1]) (st := [.int 1]) (M := sM Ln (dd_u (dd_u I 148 (upd (I 148) 0 0)) 148 (upd (upd (I 148) 0 0) 0 1)) L c s) (o := (none, .int 1, sM Ln (dd_u (dd_u I 148 (upd (I 148) 0 0)) 148 (upd (upd (I 148) 0 0) 0 1)) L c s)) rfl rfl (dd_Af.ret rfl ?_) (by omega)
      show dd_Rn (e + 16) m_X11_ahead (15, [.ref 148, .int a1, .int a2], [.int 1], sM Ln (dd_u (dd_u I 148 (upd (I 148) 0 0)) 148 (upd (upd (I 148) 0 0) 0 1)) L c s) _
      exact dd_Rn.retK 3 (pc := 40) (ls := [.ref 148, .int a1, .int a2]) (st := [.int 0]) (M := sM Ln (dd_u (dd_u I 148 (upd (I 148) 0 0)) 148 (upd (upd (I 148) 0 0) 0 1)) L c s) (o := (none, .int 0, sM Ln (dd_u (dd_u I 148 (upd (I 148) 0 0)) 148 (upd (upd (I 148) 0 0) 0 1)) L c s)) rfl rfl h (by omega)
    · have h := h.2 hc
      refine dd_Rn.retK 2 (pc := 15) (ls := [.int a1, .int 0, .int ((I 149 1) - 1)]) (st := [.int 1]) (M := sM Ln (dd_u I 148 (upd (I 148) 0 0)) L c s) (o := (none, .int 1, sM Ln (dd_u I 148 (upd (I 148) 0 0)) L c s)) rfl rfl (dd_Af.ret rfl ?_) (by omega)
      show dd_Rn (e + 15) m_X11_noBoy (11, [.ref 148, .int a1], [.int 1], sM Ln (dd_u I 148 (upd (I 148) 0 0)) L c s) _
      refine dd_Rn.retK 2 (pc := 19) (ls := [.ref 148, .int a1]) (st := [.int 0]) (M := sM Ln (dd_u I 148 (upd (I 148) 0 0)) L c s) (o := (none, .int 0, sM Ln (dd_u I 148 (upd (I 148) 0 0)) L c s)) rfl rfl (dd_Af.ret rfl ?_) (by omega)
      show dd_Rn (e + 16) m_X11_ahead (11, [.ref 148, .int a1, .int a2], [.int 0, .ref 148], sM Ln (dd_u I 148 (upd (I 148) 0 0)) L c s) _
      refine dd_Rn.sub 1 (pc := 12) (ls := [.ref 148, .int a1, .int a2]) (st := [.int 1, .int 0, .ref 148]) (M := sM Ln (dd_u I 148 (upd (I 148) 0 0)) L c s) (x := m_X11_throwsIf) (as := [.ref 148, .int 0, .int 1]) (rest := []) rfl rfl rfl rfl ?_
      show dd_Rn (e + 15) m_X11_throwsIf (0, [.ref 148, .int 0, .int 1], [], sM Ln (dd_u I 148 (upd (I 148) 0 0)) L c s) _
      refine dd_Rn.retK 3 (pc := 10) (ls := [.ref 148, .int 0, .int 1]) (st := [.int 0]) (M := sM Ln (dd_u I 148 (upd (I 148) 0 0)) L c s) (o := (none, .int 0, sM Ln (dd_u I 148 (upd (I 148) 0 0)) L c s)) rfl rfl (dd_Af.ret rfl ?_) (by omega)
      show dd_Rn (e + 16) m_X11_ahead (15, [.ref 148, .int a1, .int a2], [.int 0], sM Ln (dd_u I 148 (upd (I 148) 0 0)) L c s) _
      refine dd_Rn.sub 3 (pc := 20) (ls := [.ref 148, .int a1, .int a2]) (st := [.int a2, .ref 148]) (M := sM Ln (dd_u I 148 (upd (I 148) 0 0)) L c s) (x := m_X11_noAhead) (as := [.int a2]) (rest := [.ref 148]) rfl rfl rfl rfl ?_
      show dd_Rn (e + 15) m_X11_noAhead (0, [.int a2], [], sM Ln (dd_u I 148 (upd (I 148) 0 0)) L c s) _
      refine dd_Rn.sub 3 (pc := 4) (ls := [.int a2]) (st := [.int 100, .int 0, .int a2]) (M := sM Ln (dd_u I 148 (upd (I 148) 0 0)) L c s) (x := m_X11_in) (as := [.int a2, .int 0, .int 100]) (rest := []) rfl rfl rfl rfl ?_
      show dd_Rn (e + 14) m_X11_in (0, [.int a2, .int 0, .int 100], [], sM Ln (dd_u I 148 (upd (I 148) 0 0)) L c s) _
      refine dd_Rn.ite 2 (c := a2 < 0) (A := (14, [.int a2, .int 0, .int 100], [], sM Ln (dd_u I 148 (upd (I 148) 0 0)) L c s)) (B := (5, [.int a2, .int 0, .int 100], [], sM Ln (dd_u I 148 (upd (I 148) 0 0)) L c s)) rfl (fun hc => ?_) (fun hc => ?_) (by omega)
      · have h := h.1 hc
        refine dd_Rn.retK 1 (pc := 15) (ls := [.int a2, .int 0, .int 100]) (st := [.int 0]) (M := sM Ln (dd_u I 148 (upd (I 148) 0 0)) L c s) (o := (none, .int 0, sM Ln (dd_u I 148 (upd (I 148) 0 0)) L c s)) rfl rfl (dd_Af.ret rfl ?_) (by omega)
        show dd_Rn (e + 15) m_X11_noAhead (7, [.int a2], [.int 0], sM Ln (dd_u I 148 (upd (I 148) 0 0)) L c s) _
        refine dd_Rn.retK 3 (pc := 15) (ls := [.int a2]) (st := [.int 1]) (M := sM Ln (dd_u I 148 (upd (I 148) 0 0)) L c s) (o := (none, .int 1, sM Ln (dd_u I 148 (upd (I 148) 0 0)) L c s)) rfl rfl (dd_Af.ret rfl ?_) (by omega)
        show dd_Rn (e + 16) m_X11_ahead (23, [.ref 148, .int a1, .int a2], [.int 1, .ref 148], sM Ln (dd_u I 148 (upd (I 148) 0 0)) L c s) _
        refine dd_Rn.sub 1 (pc := 24) (ls := [.ref 148, .int a1, .int a2]) (st := [.int 2, .int 1, .ref 148]) (M := sM Ln (dd_u I 148 (upd (I 148) 0 0)) L c s) (x := m_X11_throwsIf) (as := [.ref 148, .int 1, .int 2]) (rest := []) rfl rfl rfl rfl ?_
        show dd_Rn (e + 15) m_X11_throwsIf (0, [.ref 148, .int 1, .int 2], [], sM Ln (dd_u I 148 (upd (I 148) 0 0)) L c s) _
        refine dd_Rn.retK 6 (pc := 10) (ls := [.ref 148, .int 1, .int 2]) (st := [.int 1]) (M := sM Ln (dd_u (dd_u I 148 (upd (I 148) 0 0)) 148 (upd (upd (I 148) 0 0) 0 2)) L c s) (o := (none, .int 1, sM Ln (dd_u (dd_u I 148 (upd (I 148) 0 0)) 148 (upd (upd (I 148) 0 0) 0 2)) L c s)) rfl rfl (dd_Af.ret rfl ?_) (by omega)
        show dd_Rn (e + 16) m_X11_ahead (27, [.ref 148, .int a1, .int a2], [.int 1], sM Ln (dd_u (dd_u I 148 (upd (I 148) 0 0)) 148 (upd (upd (I 148) 0 0) 0 2)) L c s) _
        exact dd_Rn.retK 3 (pc := 40) (ls := [.ref 148, .int a1, .int a2]) (st := [.int 0]) (M := sM Ln (dd_u (dd_u I 148 (upd (I 148) 0 0)) 148 (upd (upd (I 148) 0 0) 0 2)) L c s) (o := (none, .int 0, sM Ln (dd_u (dd_u I 148 (upd (I 148) 0 0)) 148 (upd (upd (I 148) 0 0) 0 2)) L c s)) rfl rfl h (by omega)
      · have h := h.2 hc
        refine dd_Rn.ite 2 (c := (100 : Int32) < a2) (A := (14, [.int a2, .int 0, .int 100], [], sM Ln (dd_u I 148 (upd (I 148) 0 0)) L c s)) (B := (10, [.int a2, .int 0, .int 100], [], sM Ln (dd_u I 148 (upd (I 148) 0 0)) L c s)) rfl (fun hc => ?_) (fun hc => ?_) (by omega)
        · have h := h.1 hc
          refine dd_Rn.retK 1 (pc := 15) (ls := [.int a2, .int 0, .int 100]) (st := [.int 0]) (M := sM Ln (dd_u I 148 (upd (I 148) 0 0)) L c s) (o := (none, .int 0, sM Ln (dd_u I 148 (upd (I 148) 0 0)) L c s)) rfl rfl (dd_Af.ret rfl ?_) (by omega)
          show dd_Rn (e + 15) m_X11_noAhead (7, [.int a2], [.int 0], sM Ln (dd_u I 148 (upd (I 148) 0 0)) L c s) _
          refine dd_Rn.retK 3 (pc := 15) (ls := [.int a2]) (st := [.int 1]) (M := sM Ln (dd_u I 148 (upd (I 148) 0 0)) L c s) (o := (none, .int 1, sM Ln (dd_u I 148 (upd (I 148) 0 0)) L c s)) rfl rfl (dd_Af.ret rfl ?_) (by omega)
          show dd_Rn (e + 16) m_X11_ahead (23, [.ref 148, .int a1, .int a2], [.int 1, .ref 148], sM Ln (dd_u I 148 (upd (I 148) 0 0)) L c s) _
          refine dd_Rn.sub 1 (pc := 24) (ls := [.ref 148, .int a1, .int a2]) (st := [.int 2, .int 1, .ref 148]) (M := sM Ln (dd_u I 148 (upd (I 148) 0 0)) L c s) (x := m_X11_throwsIf) (as := [.ref 148, .int 1, .int 2]) (rest := []) rfl rfl rfl rfl ?_
          show dd_Rn (e + 15) m_X11_throwsIf (0, [.ref 148, .int 1, .int 2], [], sM Ln (dd_u I 148 (upd (I 148) 0 0)) L c s) _
          refine dd_Rn.retK 6 (pc := 10) (ls := [.ref 148, .int 1, .int 2]) (st := [.int 1]) (M := sM Ln (dd_u (dd_u I 148 (upd (I 148) 0 0)) 148 (upd (upd (I 148) 0 0) 0 2)) L c s) (o := (none, .int 1, sM Ln (dd_u (dd_u I 148 (upd (I 148) 0 0)) 148 (upd (upd (I 148) 0 0) 0 2)) L c s)) rfl rfl (dd_Af.ret rfl ?_) (by omega)
          show dd_Rn (e + 16) m_X11_ahead (27, [.ref 148, .int a1, .int a2], [.int 1], sM Ln (dd_u (dd_u I 148 (upd (I 148) 0 0)) 148 (upd (upd (I 148) 0 0) 0 2)) L c s) _
          exact dd_Rn.retK 3 (pc := 40) (ls := [.ref 148, .int a1, .int a2]) (st := [.int 0]) (M := sM Ln (dd_u (dd_u I 148 (upd (I 148) 0 0)) 148 (upd (upd (I 148) 0 0) 0 2)) L c s) (o := (none, .int 0, sM Ln (dd_u (dd_u I 148 (upd (I 148) 0 0)) 148 (upd (upd (I 148) 0 0) 0 2)) L c s)) rfl rfl h (by omega)
        · have h := h.2 hc
          refine dd_Rn.retK 2 (pc := 15) (ls := [.int a2, .int 0, .int 100]) (st := [.int 1]) (M := sM Ln (dd_u I 148 (upd (I 148) 0 0)) L c s) (o := (none, .int 1, sM Ln (dd_u I 148 (upd (I 148) 0 0)) L c s)) rfl rfl (dd_Af.ret rfl ?_) (by omega)
          show dd_Rn (e + 15) m_X11_noAhead (7, [.int a2], [.int 1], sM Ln (dd_u I 148 (upd (I 148) 0 0)) L c s) _
          refine dd_Rn.retK 2 (pc := 15) (ls := [.int a2]) (st := [.int 0]) (M := sM Ln (dd_u I 148 (upd (I 148) 0 0)) L c s) (o := (none, .int 0, sM Ln (dd_u I 148 (upd (I 148) 0 0)) L c s)) rfl rfl (dd_Af.ret rfl ?_) (by omega)
          show dd_Rn (e + 16) m_X11_ahead (23, [.ref 148, .int a1, .int a2], [.int 0, .ref 148], sM Ln (dd_u I 148 (upd (I 148) 0 0)) L c s) _
          refine dd_Rn.sub 1 (pc := 24) (ls := [.ref 148, .int a1, .int a2]) (st := [.int 2, .int 0, .ref 148]) (M := sM Ln (dd_u I 148 (upd (I 148) 0 0)) L c s) (x := m_X11_throwsIf) (as := [.ref 148, .int 0, .int 2]) (rest := []) rfl rfl rfl rfl ?_
          show dd_Rn (e + 15) m_X11_throwsIf (0, [.ref 148, .int 0, .int 2], [], sM Ln (dd_u I 148 (upd (I 148) 0 0)) L c s) _
          refine dd_Rn.retK 3 (pc := 10) (ls := [.ref 148, .int 0, .int 2]) (st := [.int 0]) (M := sM Ln (dd_u I 148 (upd (I 148) 0 0)) L c s) (o := (none, .int 0, sM Ln (dd_u I 148 (upd (I 148) 0 0)) L c s)) rfl rfl (dd_Af.ret rfl ?_) (by omega)
          show dd_Rn (e + 16) m_X11_ahead (27, [.ref 148, .int a1, .int a2], [.int 0], sM Ln (dd_u I 148 (upd (I 148) 0 0)) L c s) _
          refine dd_Rn.cI 4 (pc := 37) (ls := [.ref 148, .int a1, .int a2]) (st := [.int a2, .int a1, .ref 148]) (x := m_X11_aheadOf) (as := [.ref 148, .int a1, .int a2]) (rest := []) rfl rfl rfl rfl h ?_
          intro x1 I1 L1 h
          show dd_Rn (e + 16) m_X11_ahead (40, [.ref 148, .int a1, .int a2], [.int x1], sM Ln I1 L1 c s) _
          exact dd_Rn.retK 0 (pc := 40) (ls := [.ref 148, .int a1, .int a2]) (st := [.int x1]) (M := sM Ln I1 L1 c s) (o := (none, .int x1, sM Ln I1 L1 c s)) rfl rfl h (by omega)

theorem w_X11_mends_0 {Ln d c s : Nat} {I : Nat → Nat → Int32} {L : Nat → Nat → Int64} {Q : dd_O → Prop} {a1 : Int32} (hd : 28 ≤ d) (h : ((a1 < 0 → Q (none, .int 0, sM Ln (dd_u (dd_u I 148 (upd (I 148) 0 0)) 148 (upd (upd (I 148) 0 0) 0 1)) L c s)) ∧ (¬ (a1 < 0) → (((I 149 1) - 1 < a1 → Q (none, .int 0, sM Ln (dd_u (dd_u I 148 (upd (I 148) 0 0)) 148 (upd (upd (I 148) 0 0) 0 1)) L c s)) ∧ (¬ ((I 149 1) - 1 < a1) → dd_Ev (d - 1) m_X11_soonOf [.ref 148, .int a1] (sM Ln (dd_u I 148 (upd (I 148) 0 0)) L c s) (dd_RI Ln c s (fun x1 I1 L1 => dd_Rn d m_X11_mends (31, [.ref 148, .int a1, .int (-1), .int x1, .int 0, .null], [], sM Ln I1 L1 c s) Q))))))) : dd_Ev d m_X11_mends [.ref 148, .int a1] (sM Ln I L c s) Q := by
  obtain ⟨e, rfl⟩ : ∃ e, d = e + 16 := ⟨d - 16, by omega⟩
  show dd_Rn (e + 16) m_X11_mends (0, [.ref 148, .int a1, .null, .null, .null, .null], [], sM Ln I L c s) Q
  refine dd_Rn.sub 6 (pc := 8) (ls := [.ref 148, .int a1, .null, .null, .null, .null]) (st := [.int a1, .ref 148, .ref 148]) (M := sM Ln (dd_u I 148 (upd (I 148) 0 0)) L c s) (x := m_X11_noBoy) (as := [.ref 148, .int a1]) (rest := [.ref 148]) rfl rfl rfl rfl ?_
  show dd_Rn (e + 15) m_X11_noBoy (0, [.ref 148, .int a1], [], sM Ln (dd_u I 148 (upd (I 148) 0 0)) L c s) _
  refine dd_Rn.sub 3 (pc := 3) (ls := [.ref 148, .int a1]) (st := [.ref 148, .int 0, .int a1]) (M := sM Ln (dd_u I 148 (upd (I 148) 0 0)) L c s) (x := m_X11_boys) (as := [.ref 148]) (rest := [.int 0, .int a1]) rfl rfl rfl rfl ?_
  show dd_Rn (e + 14) m_X11_boys (0, [.ref 148], [], sM Ln (dd_u I 148 (upd (I 148) 0 0)) L c s) _
  refine dd_Rn.retK 4 (pc := 6) (ls := [.ref 148]) (st := [.int (I 149 1)]) (M := sM Ln (dd_u I 148 (upd (I 148) 0 0)) L c s) (o := (none, .int (I 149 1), sM Ln (dd_u I 148 (upd (I 148) 0 0)) L c s)) rfl rfl (dd_Af.ret rfl ?_) (by omega)
  show dd_Rn (e + 15) m_X11_noBoy (6, [.ref 148, .int a1], [.int (I 149 1), .int 0, .int a1], sM Ln (dd_u I 148 (upd (I 148) 0 0)) L c s) _
  refine dd_Rn.sub 2 (pc := 8) (ls := [.ref 148, .int a1]) (st := [.int ((I 149 1) - 1), .int 0, .int a1]) (M := sM Ln (dd_u I 148 (upd (I 148) 0 0)) L c s) (x := m_X11_in) (as := [.int a1, .int 0, .int ((I 149 1) - 1)]) (rest := []) rfl rfl rfl rfl ?_
  show dd_Rn (e + 14) m_X11_in (0, [.int a1, .int 0, .int ((I 149 1) - 1)], [], sM Ln (dd_u I 148 (upd (I 148) 0 0)) L c s) _
  refine dd_Rn.ite 2 (c := a1 < 0) (A := (14, [.int a1, .int 0, .int ((I 149 1) - 1)], [], sM Ln (dd_u I 148 (upd (I 148) 0 0)) L c s)) (B := (5, [.int a1, .int 0, .int ((I 149 1) - 1)], [], sM Ln (dd_u I 148 (upd (I 148) 0 0)) L c s)) rfl (fun hc => ?_) (fun hc => ?_) (by omega)
  · have h := h.1 hc
    refine dd_Rn.retK 1 (pc := 15) (ls := [.int a1, .int 0, .int ((I 149 1) - 1)]) (st := [.int 0]) (M := sM Ln (dd_u I 148 (upd (I 148) 0 0)) L c s) (o := (none, .int 0, sM Ln (dd_u I 148 (upd (I 148) 0 0)) L c s)) rfl rfl (dd_Af.ret rfl ?_) (by omega)
    show dd_Rn (e + 15) m_X11_noBoy (11, [.ref 148, .int a1], [.int 0], sM Ln (dd_u I 148 (upd (I 148) 0 0)) L c s) _
    refine dd_Rn.retK 3 (pc := 19) (ls := [.ref 148, .int a1]) (st := [.int 1]) (M := sM Ln (dd_u I 148 (upd (I 148) 0 0)) L c s) (o := (none, .int 1, sM Ln (dd_u I 148 (upd (I 148) 0 0)) L c s)) rfl rfl (dd_Af.ret rfl ?_) (by omega)
    show dd_Rn (e + 16) m_X11_mends (11, [.ref 148, .int a1, .null, .null, .null, .null], [.int 1, .ref 148], sM Ln (dd_u I 148 (upd (I 148) 0 0)) L c s) _
    refine dd_Rn.sub 1 (pc := 12) (ls := [.ref 148, .int a1, .null, .null, .null, .null]) (st := [.int 1, .int 1, .ref 148]) (M := sM Ln (dd_u I 148 (upd (I 148) 0 0)) L c s) (x := m_X11_throwsIf) (as := [.ref 148, .int 1, .int 1]) (rest := []) rfl rfl rfl rfl ?_
    show dd_Rn (e + 15) m_X11_throwsIf (0, [.ref 148, .int 1, .int 1], [], sM Ln (dd_u I 148 (upd (I 148) 0 0)) L c s) _
    refine dd_Rn.retK 6 (pc := 10) (ls := [.ref 148, .int 1, .int 1]) (st := [.int 1]) (M := sM Ln (dd_u (dd_u I 148 (upd (I 148) 0 0)) 148 (upd (upd (I 148) 0 0) 0 1)) L c s) (o := (none, .int 1, sM Ln (dd_u (dd_u I 148 (upd (I 148) 0 0)) 148 (upd (upd (I 148) 0 0) 0 1)) L c s)) rfl rfl (dd_Af.ret rfl ?_) (by omega)
    show dd_Rn (e + 16) m_X11_mends (15, [.ref 148, .int a1, .null, .null, .null, .null], [.int 1], sM Ln (dd_u (dd_u I 148 (upd (I 148) 0 0)) 148 (upd (upd (I 148) 0 0) 0 1)) L c s) _
    exact dd_Rn.retK 2 (pc := 19) (ls := [.ref 148, .int a1, .null, .null, .null, .null]) (st := [.int 0]) (M := sM Ln (dd_u (dd_u I 148 (upd (I 148) 0 0)) 148 (upd (upd (I 148) 0 0) 0 1)) L c s) (o := (none, .int 0, sM Ln (dd_u (dd_u I 148 (upd (I 148) 0 0)) 148 (upd (upd (I 148) 0 0) 0 1)) L c s)) rfl rfl h (by omega)
  · have h := h.2 hc
    refine dd_Rn.ite 2 (c := (I 149 1) - 1 < a1) (A := (14, [.int a1, .int 0, .int ((I 149 1) - 1)], [], sM Ln (dd_u I 148 (upd (I 148) 0 0)) L c s)) (B := (10, [.int a1, .int 0, .int ((I 149 1) - 1)], [], sM Ln (dd_u I 148 (upd (I 148) 0 0)) L c s)) rfl (fun hc => ?_) (fun hc => ?_) (by omega)
    · have h := h.1 hc
      refine dd_Rn.retK 1 (pc := 15) (ls := [.int a1, .int 0, .int ((I 149 1) - 1)]) (st := [.int 0]) (M := sM Ln (dd_u I 148 (upd (I 148) 0 0)) L c s) (o := (none, .int 0, sM Ln (dd_u I 148 (upd (I 148) 0 0)) L c s)) rfl rfl (dd_Af.ret rfl ?_) (by omega)
      show dd_Rn (e + 15) m_X11_noBoy (11, [.ref 148, .int a1], [.int 0], sM Ln (dd_u I 148 (upd (I 148) 0 0)) L c s) _
      refine dd_Rn.retK 3 (pc := 19) (ls := [.ref 148, .int a1]) (st := [.int 1]) (M := sM Ln (dd_u I 148 (upd (I 148) 0 0)) L c s) (o := (none, .int 1, sM Ln (dd_u I 148 (upd (I 148) 0 0)) L c s)) rfl rfl (dd_Af.ret rfl ?_) (by omega)
      show dd_Rn (e + 16) m_X11_mends (11, [.ref 148, .int a1, .null, .null, .null, .null], [.int 1, .ref 148], sM Ln (dd_u I 148 (upd (I 148) 0 0)) L c s) _
      refine dd_Rn.sub 1 (pc := 12) (ls := [.ref 148, .int a1, .null, .null, .null, .null]) (st := [.int 1, .int 1, .ref 148]) (M := sM Ln (dd_u I 148 (upd (I 148) 0 0)) L c s) (x := m_X11_throwsIf) (as := [.ref 148, .int 1, .int 1]) (rest := []) rfl rfl rfl rfl ?_
      show dd_Rn (e + 15) m_X11_throwsIf (0, [.ref 148, .int 1, .int 1], [], sM Ln (dd_u I 148 (upd (I 148) 0 0)) L c s) _
      refine dd_Rn.retK 6 (pc := 10) (ls := [.ref 148, .int 1, .int 1]) (st := [.int 1]) (M := sM Ln (dd_u (dd_u I 148 (upd (I 148) 0 0)) 148 (upd (upd (I 148) 0 0) 0 1)) L c s) (o := (none, .int 1, sM Ln (dd_u (dd_u I 148 (upd (I 148) 0 0)) 148 (upd (upd (I 148) 0 0) 0 1)) L c s)) rfl rfl (dd_Af.ret rfl ?_) (by omega)
      show dd_Rn (e + 16) m_X11_mends (15, [.ref 148, .int a1, .null, .null, .null, .null], [.int 1], sM Ln (dd_u (dd_u I 148 (upd (I 148) 0 0)) 148 (upd (upd (I 148) 0 0) 0 1)) L c s) _
      exact dd_Rn.retK 2 (pc := 19) (ls := [.ref 148, .int a1, .null, .null, .null, .null]) (st := [.int 0]) (M := sM Ln (dd_u (dd_u I 148 (upd (I 148) 0 0)) 148 (upd (upd (I 148) 0 0) 0 1)) L c s) (o := (none, .int 0, sM Ln (dd_u (dd_u I 148 (upd (I 148) 0 0)) 148 (upd (upd (I 148) 0 0) 0 1)) L c s)) rfl rfl h (by omega)
    · have h := h.2 hc
      refine dd_Rn.retK 2 (pc := 15) (ls := [.int a1, .int 0, .int ((I 149 1) - 1)]) (st := [.int 1]) (M := sM Ln (dd_u I 148 (upd (I 148) 0 0)) L c s) (o := (none, .int 1, sM Ln (dd_u I 148 (upd (I 148) 0 0)) L c s)) rfl rfl (dd_Af.ret rfl ?_) (by omega)
      show dd_Rn (e + 15) m_X11_noBoy (11, [.ref 148, .int a1], [.int 1], sM Ln (dd_u I 148 (upd (I 148) 0 0)) L c s) _
      refine dd_Rn.retK 2 (pc := 19) (ls := [.ref 148, .int a1]) (st := [.int 0]) (M := sM Ln (dd_u I 148 (upd (I 148) 0 0)) L c s) (o := (none, .int 0, sM Ln (dd_u I 148 (upd (I 148) 0 0)) L c s)) rfl rfl (dd_Af.ret rfl ?_) (by omega)
      show dd_Rn (e + 16) m_X11_mends (11, [.ref 148, .int a1, .null, .null, .null, .null], [.int 0, .ref 148], sM Ln (dd_u I 148 (upd (I 148) 0 0)) L c s) _
      refine dd_Rn.sub 1 (pc := 12) (ls := [.ref 148, .int a1, .null, .null, .null, .null]) (st := [.int 1, .int 0, .ref 148]) (M := sM Ln (dd_u I 148 (upd (I 148) 0 0)) L c s) (x := m_X11_throwsIf) (as := [.ref 148, .int 0, .int 1]) (rest := []) rfl rfl rfl rfl ?_
      show dd_Rn (e + 15) m_X11_throwsIf (0, [.ref 148, .int 0, .int 1], [], sM Ln (dd_u I 148 (upd (I 148) 0 0)) L c s) _
      refine dd_Rn.retK 3 (pc := 10) (ls := [.ref 148, .int 0, .int 1]) (st := [.int 0]) (M := sM Ln (dd_u I 148 (upd (I 148) 0 0)) L c s) (o := (none, .int 0, sM Ln (dd_u I 148 (upd (I 148) 0 0)) L c s)) rfl rfl (dd_Af.ret rfl ?_) (by omega)
      show dd_Rn (e + 16) m_X11_mends (15, [.ref 148, .int a1, .null, .null, .null, .null], [.int 0], sM Ln (dd_u I 148 (upd (I 148) 0 0)) L c s) _
      refine dd_Rn.cI 5 (pc := 24) (ls := [.ref 148, .int a1, .int (-1), .null, .null, .null]) (st := [.int a1, .ref 148]) (x := m_X11_soonOf) (as := [.ref 148, .int a1]) (rest := []) rfl rfl rfl rfl h ?_
      intro x1 I1 L1 h
      show dd_Rn (e + 16) m_X11_mends (27, [.ref 148, .int a1, .int (-1), .null, .null, .null], [.int x1], sM Ln I1 L1 c s) _
      exact dd_Rn.go 3 (cf' := (31, [.ref 148, .int a1, .int (-1), .int x1, .int 0, .null], [], sM Ln I1 L1 c s)) rfl h (by omega)

theorem w_X11_mends_31 {Ln d c s : Nat} {I : Nat → Nat → Int32} {L : Nat → Nat → Int64} {Q : dd_O → Prop} {a1 a2 a3 a4 : Int32} {a5 : Value} (hd : 28 ≤ d) (h : (((64 : Int32) ≤ a4 → Q (none, .int a2, sM Ln I L c s)) ∧ (¬ ((64 : Int32) ≤ a4) → dd_Ev (d - 1) m_X11_keepsAll [.ref 148] (sM Ln I L c s) (dd_RV Ln c s (fun I1 L1 => ((0 ≤ ((187 : Int32) + ((5 : Int32) * a1)) + 1 ∧ tn (((187 : Int32) + ((5 : Int32) * a1)) + 1) < 2220) ∧ ((0 ≤ ((139 : Int32) + ((8 : Int32) * (I1 149 (tn (((187 : Int32) + ((5 : Int32) * a1)) + 1))))) + (a4 / 8) ∧ tn (((139 : Int32) + ((8 : Int32) * (I1 149 (tn (((187 : Int32) + ((5 : Int32) * a1)) + 1))))) + (a4 / 8)) < 2220) ∧ dd_Ev (d - 1) m_X11_soonFor [.ref 148, .int ((1 : Int32) <<< (a1 &&& 31))] (sM Ln (dd_u I1 149 (upd (I1 149) (tn (((139 : Int32) + ((8 : Int32) * (I1 149 (tn (((187 : Int32) + ((5 : Int32) * a1)) + 1))))) + (a4 / 8))) (a4 - a4 / 8 * 8))) L1 c s) (dd_RI Ln c s (fun x2 I2 L2 => ((a3 ≤ x2 → dd_Rn d m_X11_mends (31, [.ref 148, .int a1, .int a2, .int (if x2 < a3 then x2 else a3), .int (a4 + 1), .int x2], [], sM Ln I2 L2 c s) Q) ∧ (¬ (a3 ≤ x2) → dd_Rn d m_X11_mends (31, [.ref 148, .int a1, .int a4, .int (if x2 < a3 then x2 else a3), .int (a4 + 1), .int x2], [], sM Ln I2 L2 c s) Q))))))))))) : dd_Rn d m_X11_mends (31, [.ref 148, .int a1, .int a2, .int a3, .int a4, a5], [], sM Ln I L c s) Q := by
  obtain ⟨e, rfl⟩ : ∃ e, d = e + 16 := ⟨d - 16, by omega⟩
  refine dd_Rn.ite 2 (c := (64 : Int32) ≤ a4) (A := (101, [.ref 148, .int a1, .int a2, .int a3, .int a4, a5], [], sM Ln I L c s)) (B := (38, [.ref 148, .int a1, .int a2, .int a3, .int a4, a5], [], sM Ln I L c s)) rfl (fun hc => ?_) (fun hc => ?_) (by omega)
  · have h := h.1 hc
    exact dd_Rn.retK 1 (pc := 102) (ls := [.ref 148, .int a1, .int a2, .int a3, .int a4, a5]) (st := [.int a2]) (M := sM Ln I L c s) (o := (none, .int a2, sM Ln I L c s)) rfl rfl h (by omega)
  · have h := h.2 hc
    refine dd_Rn.cV 1 (pc := 39) (ls := [.ref 148, .int a1, .int a2, .int a3, .int a4, a5]) (st := [.ref 148]) (x := m_X11_keepsAll) (as := [.ref 148]) (rest := []) rfl rfl rfl rfl h ?_
    intro I1 L1 h
    show dd_Rn (e + 16) m_X11_mends (42, [.ref 148, .int a1, .int a2, .int a3, .int a4, a5], [], sM Ln I1 L1 c s) _
    refine dd_Rn.sub 5 (pc := 49) (ls := [.ref 148, .int a1, .int a2, .int a3, .int a4, a5]) (st := [.int 1, .int a1, .ref 148, .ref 149]) (M := sM Ln I1 L1 c s) (x := m_X11_of) (as := [.ref 148, .int a1, .int 1]) (rest := [.ref 149]) rfl rfl rfl rfl ?_
    show dd_Rn (e + 15) m_X11_of (0, [.ref 148, .int a1, .int 1], [], sM Ln I1 L1 c s) _
    refine dd_Rn.sub 4 (pc := 6) (ls := [.ref 148, .int a1, .int 1]) (st := [.int 1, .int a1, .ref 149]) (M := sM Ln I1 L1 c s) (x := m_X11_at) (as := [.int a1, .int 1]) (rest := [.ref 149]) rfl rfl rfl rfl ?_
    show dd_Rn (e + 14) m_X11_at (0, [.int a1, .int 1], [], sM Ln I1 L1 c s) _
    refine dd_Rn.retK 7 (pc := 9) (ls := [.int a1, .int 1]) (st := [.int (((187 : Int32) + ((5 : Int32) * a1)) + 1)]) (M := sM Ln I1 L1 c s) (o := (none, .int (((187 : Int32) + ((5 : Int32) * a1)) + 1), sM Ln I1 L1 c s)) rfl rfl (dd_Af.ret rfl ?_) (by omega)
    show dd_Rn (e + 15) m_X11_of (9, [.ref 148, .int a1, .int 1], [.int (((187 : Int32) + ((5 : Int32) * a1)) + 1), .ref 149], sM Ln I1 L1 c s) _
    obtain ⟨hc, h⟩ := h
    refine dd_Rn.ci (fun j0 => (9, [.ref 148, .int a1, .int 1], [.int j0, .ref 149], sM Ln I1 L1 c s)) (fun j0 => (10, [.ref 148, .int a1, .int 1], [.int (I1 149 (tn j0))], sM Ln I1 L1 c s)) (fun j0 => 0 ≤ j0 ∧ tn j0 < 2220) (((187 : Int32) + ((5 : Int32) * a1)) + 1) (fun j0 hc h => dd_Rn.chk 0 (c := 0 ≤ j0 ∧ tn j0 < 2220) (A := (10, [.ref 148, .int a1, .int 1], [.int (I1 149 (tn j0))], sM Ln I1 L1 c s)) rfl hc h (by omega)) hc ?_
    refine dd_Rn.se (cf := (10, [.ref 148, .int a1, .int 1], [.int (I1 149 (tn (((187 : Int32) + ((5 : Int32) * a1)) + 1)))], sM Ln I1 L1 c s)) ?_
    refine dd_Rn.retK 0 (pc := 10) (ls := [.ref 148, .int a1, .int 1]) (st := [.int (I1 149 (tn (((187 : Int32) + ((5 : Int32) * a1)) + 1)))]) (M := sM Ln I1 L1 c s) (o := (none, .int (I1 149 (tn (((187 : Int32) + ((5 : Int32) * a1)) + 1))), sM Ln I1 L1 c s)) rfl rfl (dd_Af.ret rfl ?_) (by omega)
    show dd_Rn (e + 16) m_X11_mends (52, [.ref 148, .int a1, .int a2, .int a3, .int a4, a5], [.int (I1 149 (tn (((187 : Int32) + ((5 : Int32) * a1)) + 1))), .ref 149], sM Ln I1 L1 c s) _
    refine dd_Rn.sub 3 (pc := 57) (ls := [.ref 148, .int a1, .int a2, .int a3, .int a4, a5]) (st := [.int (a4 / 8), .int (I1 149 (tn (((187 : Int32) + ((5 : Int32) * a1)) + 1))), .ref 149]) (M := sM Ln I1 L1 c s) (x := m_X11_noteAt) (as := [.int (I1 149 (tn (((187 : Int32) + ((5 : Int32) * a1)) + 1))), .int (a4 / 8)]) (rest := [.ref 149]) rfl rfl rfl rfl ?_
    show dd_Rn (e + 15) m_X11_noteAt (0, [.int (I1 149 (tn (((187 : Int32) + ((5 : Int32) * a1)) + 1))), .int (a4 / 8)], [], sM Ln I1 L1 c s) _
    refine dd_Rn.retK 7 (pc := 10) (ls := [.int (I1 149 (tn (((187 : Int32) + ((5 : Int32) * a1)) + 1))), .int (a4 / 8)]) (st := [.int (((139 : Int32) + ((8 : Int32) * (I1 149 (tn (((187 : Int32) + ((5 : Int32) * a1)) + 1))))) + (a4 / 8))]) (M := sM Ln I1 L1 c s) (o := (none, .int (((139 : Int32) + ((8 : Int32) * (I1 149 (tn (((187 : Int32) + ((5 : Int32) * a1)) + 1))))) + (a4 / 8)), sM Ln I1 L1 c s)) rfl rfl (dd_Af.ret rfl ?_) (by omega)
    show dd_Rn (e + 16) m_X11_mends (60, [.ref 148, .int a1, .int a2, .int a3, .int a4, a5], [.int (((139 : Int32) + ((8 : Int32) * (I1 149 (tn (((187 : Int32) + ((5 : Int32) * a1)) + 1))))) + (a4 / 8)), .ref 149], sM Ln I1 L1 c s) _
    obtain ⟨hc, h⟩ := h
    refine dd_Rn.go 3 (cf' := (65, [.ref 148, .int a1, .int a2, .int a3, .int a4, a5], [.int (a4 - a4 / 8 * 8), .int (((139 : Int32) + ((8 : Int32) * (I1 149 (tn (((187 : Int32) + ((5 : Int32) * a1)) + 1))))) + (a4 / 8)), .ref 149], sM Ln I1 L1 c s)) rfl ?_ (by omega)
    refine dd_Rn.ci (fun j0 => (65, [.ref 148, .int a1, .int a2, .int a3, .int a4, a5], [.int (a4 - a4 / 8 * 8), .int j0, .ref 149], sM Ln I1 L1 c s)) (fun j0 => (66, [.ref 148, .int a1, .int a2, .int a3, .int a4, a5], [], sM Ln (dd_u I1 149 (upd (I1 149) (tn j0) (a4 - a4 / 8 * 8))) L1 c s)) (fun j0 => 0 ≤ j0 ∧ tn j0 < 2220) (((139 : Int32) + ((8 : Int32) * (I1 149 (tn (((187 : Int32) + ((5 : Int32) * a1)) + 1))))) + (a4 / 8)) (fun j0 hc h => dd_Rn.chk 0 (c := 0 ≤ j0 ∧ tn j0 < 2220) (A := (66, [.ref 148, .int a1, .int a2, .int a3, .int a4, a5], [], sM Ln (dd_u I1 149 (upd (I1 149) (tn j0) (a4 - a4 / 8 * 8))) L1 c s)) rfl hc h (by omega)) hc ?_
    refine dd_Rn.se (cf := (66, [.ref 148, .int a1, .int a2, .int a3, .int a4, a5], [], sM Ln (dd_u I1 149 (upd (I1 149) (tn (((139 : Int32) + ((8 : Int32) * (I1 149 (tn (((187 : Int32) + ((5 : Int32) * a1)) + 1))))) + (a4 / 8))) (a4 - a4 / 8 * 8))) L1 c s)) ?_
    refine dd_Rn.cI 4 (pc := 70) (ls := [.ref 148, .int a1, .int a2, .int a3, .int a4, a5]) (st := [.int ((1 : Int32) <<< (a1 &&& 31)), .ref 148]) (x := m_X11_soonFor) (as := [.ref 148, .int ((1 : Int32) <<< (a1 &&& 31))]) (rest := []) rfl rfl rfl rfl h ?_
    intro x2 I2 L2 h
    show dd_Rn (e + 16) m_X11_mends (73, [.ref 148, .int a1, .int a2, .int a3, .int a4, a5], [.int x2], sM Ln I2 L2 c s) _
    refine dd_Rn.ite 3 (c := a3 ≤ x2) (A := (86, [.ref 148, .int a1, .int a2, .int a3, .int a4, .int x2], [], sM Ln I2 L2 c s)) (B := (81, [.ref 148, .int a1, .int a2, .int a3, .int a4, .int x2], [], sM Ln I2 L2 c s)) rfl (fun hc => ?_) (fun hc => ?_) (by omega)
    · have h := h.1 hc
      exact dd_Rn.go 8 (cf' := (31, [.ref 148, .int a1, .int a2, .int (if x2 < a3 then x2 else a3), .int (a4 + 1), .int x2], [], sM Ln I2 L2 c s)) rfl h (by omega)
    · have h := h.2 hc
      exact dd_Rn.go 9 (cf' := (31, [.ref 148, .int a1, .int a4, .int (if x2 < a3 then x2 else a3), .int (a4 + 1), .int x2], [], sM Ln I2 L2 c s)) rfl h (by omega)

theorem w_X11_meet_0 {Ln d c s : Nat} {I : Nat → Nat → Int32} {L : Nat → Nat → Int64} {Q : dd_O → Prop} {a1 a2 : Int32} (hd : 28 ≤ d) (h : ((a1 < 0 → Q (none, .int 0, sM Ln (dd_u (dd_u I 148 (upd (I 148) 0 0)) 148 (upd (upd (I 148) 0 0) 0 1)) L c s)) ∧ (¬ (a1 < 0) → (((I 149 1) - 1 < a1 → Q (none, .int 0, sM Ln (dd_u (dd_u I 148 (upd (I 148) 0 0)) 148 (upd (upd (I 148) 0 0) 0 1)) L c s)) ∧ (¬ ((I 149 1) - 1 < a1) → ((a2 < 0 → Q (none, .int 0, sM Ln (dd_u (dd_u I 148 (upd (I 148) 0 0)) 148 (upd (upd (I 148) 0 0) 0 1)) L c s)) ∧ (¬ (a2 < 0) → (((I 149 1) - 1 < a2 → Q (none, .int 0, sM Ln (dd_u (dd_u I 148 (upd (I 148) 0 0)) 148 (upd (upd (I 148) 0 0) 0 1)) L c s)) ∧ (¬ ((I 149 1) - 1 < a2) → ((a1 = a2 → Q (none, .int 0, sM Ln (dd_u (dd_u I 148 (upd (I 148) 0 0)) 148 (upd (upd (I 148) 0 0) 0 2)) L c s)) ∧ (¬ (a1 = a2) → dd_Ev (d - 1) m_X11_keepsAll [.ref 148] (sM Ln (dd_u I 148 (upd (I 148) 0 0)) L c s) (dd_RV Ln c s (fun I1 L1 => dd_Rn d m_X11_meet (63, [.ref 148, .int a1, .int a2, .int (-1), .int 0], [], sM Ln I1 L1 c s) Q))))))))))))) : dd_Ev d m_X11_meet [.ref 148, .int a1, .int a2] (sM Ln I L c s) Q := by
  obtain ⟨e, rfl⟩ : ∃ e, d = e + 16 := ⟨d - 16, by omega⟩
  show dd_Rn (e + 16) m_X11_meet (0, [.ref 148, .int a1, .int a2, .null, .null], [], sM Ln I L c s) Q
  refine dd_Rn.sub 6 (pc := 8) (ls := [.ref 148, .int a1, .int a2, .null, .null]) (st := [.int a1, .ref 148, .ref 148]) (M := sM Ln (dd_u I 148 (upd (I 148) 0 0)) L c s) (x := m_X11_noBoy) (as := [.ref 148, .int a1]) (rest := [.ref 148]) rfl rfl rfl rfl ?_
  show dd_Rn (e + 15) m_X11_noBoy (0, [.ref 148, .int a1], [], sM Ln (dd_u I 148 (upd (I 148) 0 0)) L c s) _
  refine dd_Rn.sub 3 (pc := 3) (ls := [.ref 148, .int a1]) (st := [.ref 148, .int 0, .int a1]) (M := sM Ln (dd_u I 148 (upd (I 148) 0 0)) L c s) (x := m_X11_boys) (as := [.ref 148]) (rest := [.int 0, .int a1]) rfl rfl rfl rfl ?_
  show dd_Rn (e + 14) m_X11_boys (0, [.ref 148], [], sM Ln (dd_u I 148 (upd (I 148) 0 0)) L c s) _
  refine dd_Rn.retK 4 (pc := 6) (ls := [.ref 148]) (st := [.int (I 149 1)]) (M := sM Ln (dd_u I 148 (upd (I 148) 0 0)) L c s) (o := (none, .int (I 149 1), sM Ln (dd_u I 148 (upd (I 148) 0 0)) L c s)) rfl rfl (dd_Af.ret rfl ?_) (by omega)
  show dd_Rn (e + 15) m_X11_noBoy (6, [.ref 148, .int a1], [.int (I 149 1), .int 0, .int a1], sM Ln (dd_u I 148 (upd (I 148) 0 0)) L c s) _
  refine dd_Rn.sub 2 (pc := 8) (ls := [.ref 148, .int a1]) (st := [.int ((I 149 1) - 1), .int 0, .int a1]) (M := sM Ln (dd_u I 148 (upd (I 148) 0 0)) L c s) (x := m_X11_in) (as := [.int a1, .int 0, .int ((I 149 1) - 1)]) (rest := []) rfl rfl rfl rfl ?_
  show dd_Rn (e + 14) m_X11_in (0, [.int a1, .int 0, .int ((I 149 1) - 1)], [], sM Ln (dd_u I 148 (upd (I 148) 0 0)) L c s) _
  refine dd_Rn.ite 2 (c := a1 < 0) (A := (14, [.int a1, .int 0, .int ((I 149 1) - 1)], [], sM Ln (dd_u I 148 (upd (I 148) 0 0)) L c s)) (B := (5, [.int a1, .int 0, .int ((I 149 1) - 1)], [], sM Ln (dd_u I 148 (upd (I 148) 0 0)) L c s)) rfl (fun hc => ?_) (fun hc => ?_) (by omega)
  · have h := h.1 hc
    refine dd_Rn.retK 1 (pc := 15) (ls := [.int a1, .int 0, .int ((I 149 1) - 1)]) (st := [.int 0]) (M := sM Ln (dd_u I 148 (upd (I 148) 0 0)) L c s) (o := (none, .int 0, sM Ln (dd_u I 148 (upd (I 148) 0 0)) L c s)) rfl rfl (dd_Af.ret rfl ?_) (by omega)
    show dd_Rn (e + 15) m_X11_noBoy (11, [.ref 148, .int a1], [.int 0], sM Ln (dd_u I 148 (upd (I 148) 0 0)) L c s) _
    refine dd_Rn.retK 3 (pc := 19) (ls := [.ref 148, .int a1]) (st := [.int 1]) (M := sM Ln (dd_u I 148 (upd (I 148) 0 0)) L c s) (o := (none, .int 1, sM Ln (dd_u I 148 (upd (I 148) 0 0)) L c s)) rfl rfl (dd_Af.ret rfl ?_) (by omega)
    show dd_Rn (e + 16) m_X11_meet (11, [.ref 148, .int a1, .int a2, .null, .null], [.int 1, .ref 148], sM Ln (dd_u I 148 (upd (I 148) 0 0)) L c s) _
    refine dd_Rn.sub 4 (pc := 28) (ls := [.ref 148, .int a1, .int a2, .null, .null]) (st := [.int 1, .int 1, .ref 148]) (M := sM Ln (dd_u I 148 (upd (I 148) 0 0)) L c s) (x := m_X11_throwsIf) (as := [.ref 148, .int 1, .int 1]) (rest := []) rfl rfl rfl rfl ?_
    show dd_Rn (e + 15) m_X11_throwsIf (0, [.ref 148, .int 1, .int 1], [], sM Ln (dd_u I 148 (upd (I 148) 0 0)) L c s) _
    refine dd_Rn.retK 6 (pc := 10) (ls := [.ref 148, .int 1, .int 1]) (st := [.int 1]) (M := sM Ln (dd_u (dd_u I 148 (upd (I 148) 0 0)) 148 (upd (upd (I 148) 0 0) 0 1)) L c s) (o := (none, .int 1, sM Ln (dd_u (dd_u I 148 (upd (I 148) 0 0)) 148 (upd (upd (I 148) 0 0) 0 1)) L c s)) rfl rfl (dd_Af.ret rfl ?_) (by omega)
    show dd_Rn (e + 16) m_X11_meet (31, [.ref 148, .int a1, .int a2, .null, .null], [.int 1], sM Ln (dd_u (dd_u I 148 (upd (I 148) 0 0)) 148 (upd (upd (I 148) 0 0) 0 1)) L c s) _
    exact dd_Rn.retK 2 (pc := 53) (ls := [.ref 148, .int a1, .int a2, .null, .null]) (st := [.int 0]) (M := sM Ln (dd_u (dd_u I 148 (upd (I 148) 0 0)) 148 (upd (upd (I 148) 0 0) 0 1)) L c s) (o := (none, .int 0, sM Ln (dd_u (dd_u I 148 (upd (I 148) 0 0)) 148 (upd (upd (I 148) 0 0) 0 1)) L c s)) rfl rfl h (by omega)
  · have h := h.2 hc
    refine dd_Rn.ite 2 (c := (I 149 1) - 1 < a1) (A := (14, [.int a1, .int 0, .int ((I 149 1) - 1)], [], sM Ln (dd_u I 148 (upd (I 148) 0 0)) L c s)) (B := (10, [.int a1, .int 0, .int ((I 149 1) - 1)], [], sM Ln (dd_u I 148 (upd (I 148) 0 0)) L c s)) rfl (fun hc => ?_) (fun hc => ?_) (by omega)
    · have h := h.1 hc
      refine dd_Rn.retK 1 (pc := 15) (ls := [.int a1, .int 0, .int ((I 149 1) - 1)]) (st := [.int 0]) (M := sM Ln (dd_u I 148 (upd (I 148) 0 0)) L c s) (o := (none, .int 0, sM Ln (dd_u I 148 (upd (I 148) 0 0)) L c s)) rfl rfl (dd_Af.ret rfl ?_) (by omega)
      show dd_Rn (e + 15) m_X11_noBoy (11, [.ref 148, .int a1], [.int 0], sM Ln (dd_u I 148 (upd (I 148) 0 0)) L c s) _
      refine dd_Rn.retK 3 (pc := 19) (ls := [.ref 148, .int a1]) (st := [.int 1]) (M := sM Ln (dd_u I 148 (upd (I 148) 0 0)) L c s) (o := (none, .int 1, sM Ln (dd_u I 148 (upd (I 148) 0 0)) L c s)) rfl rfl (dd_Af.ret rfl ?_) (by omega)
      show dd_Rn (e + 16) m_X11_meet (11, [.ref 148, .int a1, .int a2, .null, .null], [.int 1, .ref 148], sM Ln (dd_u I 148 (upd (I 148) 0 0)) L c s) _
      refine dd_Rn.sub 4 (pc := 28) (ls := [.ref 148, .int a1, .int a2, .null, .null]) (st := [.int 1, .int 1, .ref 148]) (M := sM Ln (dd_u I 148 (upd (I 148) 0 0)) L c s) (x := m_X11_throwsIf) (as := [.ref 148, .int 1, .int 1]) (rest := []) rfl rfl rfl rfl ?_
      show dd_Rn (e + 15) m_X11_throwsIf (0, [.ref 148, .int 1, .int 1], [], sM Ln (dd_u I 148 (upd (I 148) 0 0)) L c s) _
      refine dd_Rn.retK 6 (pc := 10) (ls := [.ref 148, .int 1, .int 1]) (st := [.int 1]) (M := sM Ln (dd_u (dd_u I 148 (upd (I 148) 0 0)) 148 (upd (upd (I 148) 0 0) 0 1)) L c s) (o := (none, .int 1, sM Ln (dd_u (dd_u I 148 (upd (I 148) 0 0)) 148 (upd (upd (I 148) 0 0) 0 1)) L c s)) rfl rfl (dd_Af.ret rfl ?_) (by omega)
      show dd_Rn (e + 16) m_X11_meet (31, [.ref 148, .int a1, .int a2, .null, .null], [.int 1], sM Ln (dd_u (dd_u I 148 (upd (I 148) 0 0)) 148 (upd (upd (I 148) 0 0) 0 1)) L c s) _
      exact dd_Rn.retK 2 (pc := 53) (ls := [.ref 148, .int a1, .int a2, .null, .null]) (st := [.int 0]) (M := sM Ln (dd_u (dd_u I 148 (upd (I 148) 0 0)) 148 (upd (upd (I 148) 0 0) 0 1)) L c s) (o := (none, .int 0, sM Ln (dd_u (dd_u I 148 (upd (I 148) 0 0)) 148 (upd (upd (I 148) 0 0) 0 1)) L c s)) rfl rfl h (by omega)
    · have h := h.2 hc
      refine dd_Rn.retK 2 (pc := 15) (ls := [.int a1, .int 0, .int ((I 149 1) - 1)]) (st := [.int 1]) (M := sM Ln (dd_u I 148 (upd (I 148) 0 0)) L c s) (o := (none, .int 1, sM Ln (dd_u I 148 (upd (I 148) 0 0)) L c s)) rfl rfl (dd_Af.ret rfl ?_) (by omega)
      show dd_Rn (e + 15) m_X11_noBoy (11, [.ref 148, .int a1], [.int 1], sM Ln (dd_u I 148 (upd (I 148) 0 0)) L c s) _
      refine dd_Rn.retK 2 (pc := 19) (ls := [.ref 148, .int a1]) (st := [.int 0]) (M := sM Ln (dd_u I 148 (upd (I 148) 0 0)) L c s) (o := (none, .int 0, sM Ln (dd_u I 148 (upd (I 148) 0 0)) L c s)) rfl rfl (dd_Af.ret rfl ?_) (by omega)
      show dd_Rn (e + 16) m_X11_meet (11, [.ref 148, .int a1, .int a2, .null, .null], [.int 0, .ref 148], sM Ln (dd_u I 148 (upd (I 148) 0 0)) L c s) _
      refine dd_Rn.sub 3 (pc := 16) (ls := [.ref 148, .int a1, .int a2, .null, .null]) (st := [.int a2, .ref 148, .ref 148]) (M := sM Ln (dd_u I 148 (upd (I 148) 0 0)) L c s) (x := m_X11_noBoy) (as := [.ref 148, .int a2]) (rest := [.ref 148]) rfl rfl rfl rfl ?_
      show dd_Rn (e + 15) m_X11_noBoy (0, [.ref 148, .int a2], [], sM Ln (dd_u I 148 (upd (I 148) 0 0)) L c s) _
      refine dd_Rn.sub 3 (pc := 3) (ls := [.ref 148, .int a2]) (st := [.ref 148, .int 0, .int a2]) (M := sM Ln (dd_u I 148 (upd (I 148) 0 0)) L c s) (x := m_X11_boys) (as := [.ref 148]) (rest := [.int 0, .int a2]) rfl rfl rfl rfl ?_
      show dd_Rn (e + 14) m_X11_boys (0, [.ref 148], [], sM Ln (dd_u I 148 (upd (I 148) 0 0)) L c s) _
      refine dd_Rn.retK 4 (pc := 6) (ls := [.ref 148]) (st := [.int (I 149 1)]) (M := sM Ln (dd_u I 148 (upd (I 148) 0 0)) L c s) (o := (none, .int (I 149 1), sM Ln (dd_u I 148 (upd (I 148) 0 0)) L c s)) rfl rfl (dd_Af.ret rfl ?_) (by omega)
      show dd_Rn (e + 15) m_X11_noBoy (6, [.ref 148, .int a2], [.int (I 149 1), .int 0, .int a2], sM Ln (dd_u I 148 (upd (I 148) 0 0)) L c s) _
      refine dd_Rn.sub 2 (pc := 8) (ls := [.ref 148, .int a2]) (st := [.int ((I 149 1) - 1), .int 0, .int a2]) (M := sM Ln (dd_u I 148 (upd (I 148) 0 0)) L c s) (x := m_X11_in) (as := [.int a2, .int 0, .int ((I 149 1) - 1)]) (rest := []) rfl rfl rfl rfl ?_
      show dd_Rn (e + 14) m_X11_in (0, [.int a2, .int 0, .int ((I 149 1) - 1)], [], sM Ln (dd_u I 148 (upd (I 148) 0 0)) L c s) _
      refine dd_Rn.ite 2 (c := a2 < 0) (A := (14, [.int a2, .int 0, .int ((I 149 1) - 1)], [], sM Ln (dd_u I 148 (upd (I 148) 0 0)) L c s)) (B := (5, [.int a2, .int 0, .int ((I 149 1) - 1)], [], sM Ln (dd_u I 148 (upd (I 148) 0 0)) L c s)) rfl (fun hc => ?_) (fun hc => ?_) (by omega)
      · have h := h.1 hc
        refine dd_Rn.retK 1 (pc := 15) (ls := [.int a2, .int 0, .int ((I 149 1) - 1)]) (st := [.int 0]) (M := sM Ln (dd_u I 148 (upd (I 148) 0 0)) L c s) (o := (none, .int 0, sM Ln (dd_u I 148 (upd (I 148) 0 0)) L c s)) rfl rfl (dd_Af.ret rfl ?_) (by omega)
        show dd_Rn (e + 15) m_X11_noBoy (11, [.ref 148, .int a2], [.int 0], sM Ln (dd_u I 148 (upd (I 148) 0 0)) L c s) _
        refine dd_Rn.retK 3 (pc := 19) (ls := [.ref 148, .int a2]) (st := [.int 1]) (M := sM Ln (dd_u I 148 (upd (I 148) 0 0)) L c s) (o := (none, .int 1, sM Ln (dd_u I 148 (upd (I 148) 0 0)) L c s)) rfl rfl (dd_Af.ret rfl ?_) (by omega)
        show dd_Rn (e + 16) m_X11_meet (19, [.ref 148, .int a1, .int a2, .null, .null], [.int 1, .ref 148], sM Ln (dd_u I 148 (upd (I 148) 0 0)) L c s) _
        refine dd_Rn.sub 4 (pc := 28) (ls := [.ref 148, .int a1, .int a2, .null, .null]) (st := [.int 1, .int 1, .ref 148]) (M := sM Ln (dd_u I 148 (upd (I 148) 0 0)) L c s) (x := m_X11_throwsIf) (as := [.ref 148, .int 1, .int 1]) (rest := []) rfl rfl rfl rfl ?_
        show dd_Rn (e + 15) m_X11_throwsIf (0, [.ref 148, .int 1, .int 1], [], sM Ln (dd_u I 148 (upd (I 148) 0 0)) L c s) _
        refine dd_Rn.retK 6 (pc := 10) (ls := [.ref 148, .int 1, .int 1]) (st := [.int 1]) (M := sM Ln (dd_u (dd_u I 148 (upd (I 148) 0 0)) 148 (upd (upd (I 148) 0 0) 0 1)) L c s) (o := (none, .int 1, sM Ln (dd_u (dd_u I 148 (upd (I 148) 0 0)) 148 (upd (upd (I 148) 0 0) 0 1)) L c s)) rfl rfl (dd_Af.ret rfl ?_) (by omega)
        show dd_Rn (e + 16) m_X11_meet (31, [.ref 148, .int a1, .int a2, .null, .null], [.int 1], sM Ln (dd_u (dd_u I 148 (upd (I 148) 0 0)) 148 (upd (upd (I 148) 0 0) 0 1)) L c s) _
        exact dd_Rn.retK 2 (pc := 53) (ls := [.ref 148, .int a1, .int a2, .null, .null]) (st := [.int 0]) (M := sM Ln (dd_u (dd_u I 148 (upd (I 148) 0 0)) 148 (upd (upd (I 148) 0 0) 0 1)) L c s) (o := (none, .int 0, sM Ln (dd_u (dd_u I 148 (upd (I 148) 0 0)) 148 (upd (upd (I 148) 0 0) 0 1)) L c s)) rfl rfl h (by omega)
      · have h := h.2 hc
        refine dd_Rn.ite 2 (c := (I 149 1) - 1 < a2) (A := (14, [.int a2, .int 0, .int ((I 149 1) - 1)], [], sM Ln (dd_u I 148 (upd (I 148) 0 0)) L c s)) (B := (10, [.int a2, .int 0, .int ((I 149 1) - 1)], [], sM Ln (dd_u I 148 (upd (I 148) 0 0)) L c s)) rfl (fun hc => ?_) (fun hc => ?_) (by omega)
        · have h := h.1 hc
          refine dd_Rn.retK 1 (pc := 15) (ls := [.int a2, .int 0, .int ((I 149 1) - 1)]) (st := [.int 0]) (M := sM Ln (dd_u I 148 (upd (I 148) 0 0)) L c s) (o := (none, .int 0, sM Ln (dd_u I 148 (upd (I 148) 0 0)) L c s)) rfl rfl (dd_Af.ret rfl ?_) (by omega)
          show dd_Rn (e + 15) m_X11_noBoy (11, [.ref 148, .int a2], [.int 0], sM Ln (dd_u I 148 (upd (I 148) 0 0)) L c s) _
          refine dd_Rn.retK 3 (pc := 19) (ls := [.ref 148, .int a2]) (st := [.int 1]) (M := sM Ln (dd_u I 148 (upd (I 148) 0 0)) L c s) (o := (none, .int 1, sM Ln (dd_u I 148 (upd (I 148) 0 0)) L c s)) rfl rfl (dd_Af.ret rfl ?_) (by omega)
          show dd_Rn (e + 16) m_X11_meet (19, [.ref 148, .int a1, .int a2, .null, .null], [.int 1, .ref 148], sM Ln (dd_u I 148 (upd (I 148) 0 0)) L c s) _
          refine dd_Rn.sub 4 (pc := 28) (ls := [.ref 148, .int a1, .int a2, .null, .null]) (st := [.int 1, .int 1, .ref 148]) (M := sM Ln (dd_u I 148 (upd (I 148) 0 0)) L c s) (x := m_X11_throwsIf) (as := [.ref 148, .int 1, .int 1]) (rest := []) rfl rfl rfl rfl ?_
          show dd_Rn (e + 15) m_X11_throwsIf (0, [.ref 148, .int 1, .int 1], [], sM Ln (dd_u I 148 (upd (I 148) 0 0)) L c s) _
          refine dd_Rn.retK 6 (pc := 10) (ls := [.ref 148, .int 1, .int 1]) (st := [.int 1]) (M := sM Ln (dd_u (dd_u I 148 (upd (I 148) 0 0)) 148 (upd (upd (I 148) 0 0) 0 1)) L c s) (o := (none, .int 1, sM Ln (dd_u (dd_u I 148 (upd (I 148) 0 0)) 148 (upd (upd (I 148) 0 0) 0 1)) L c s)) rfl rfl (dd_Af.ret rfl ?_) (by omega)
          show dd_Rn (e + 16) m_X11_meet (31, [.ref 148, .int a1, .int a2, .null, .null], [.int 1], sM Ln (dd_u (dd_u I 148 (upd (I 148) 0 0)) 148 (upd (upd (I 148) 0 0) 0 1)) L c s) _
          exact dd_Rn.retK 2 (pc := 53) (ls := [.ref 148, .int a1, .int a2, .null, .null]) (st := [.int 0]) (M := sM Ln (dd_u (dd_u I 148 (upd (I 148) 0 0)) 148 (upd (upd (I 148) 0 0) 0 1)) L c s) (o := (none, .int 0, sM Ln (dd_u (dd_u I 148 (upd (I 148) 0 0)) 148 (upd (upd (I 148) 0 0) 0 1)) L c s)) rfl rfl h (by omega)
        · have h := h.2 hc
          refine dd_Rn.retK 2 (pc := 15) (ls := [.int a2, .int 0, .int ((I 149 1) - 1)]) (st := [.int 1]) (M := sM Ln (dd_u I 148 (upd (I 148) 0 0)) L c s) (o := (none, .int 1, sM Ln (dd_u I 148 (upd (I 148) 0 0)) L c s)) rfl rfl (dd_Af.ret rfl ?_) (by omega)
          show dd_Rn (e + 15) m_X11_noBoy (11, [.ref 148, .int a2], [.int 1], sM Ln (dd_u I 148 (upd (I 148) 0 0)) L c s) _
          refine dd_Rn.retK 2 (pc := 19) (ls := [.ref 148, .int a2]) (st := [.int 0]) (M := sM Ln (dd_u I 148 (upd (I 148) 0 0)) L c s) (o := (none, .int 0, sM Ln (dd_u I 148 (upd (I 148) 0 0)) L c s)) rfl rfl (dd_Af.ret rfl ?_) (by omega)
          show dd_Rn (e + 16) m_X11_meet (19, [.ref 148, .int a1, .int a2, .null, .null], [.int 0, .ref 148], sM Ln (dd_u I 148 (upd (I 148) 0 0)) L c s) _
          refine dd_Rn.sub 3 (pc := 28) (ls := [.ref 148, .int a1, .int a2, .null, .null]) (st := [.int 1, .int 0, .ref 148]) (M := sM Ln (dd_u I 148 (upd (I 148) 0 0)) L c s) (x := m_X11_throwsIf) (as := [.ref 148, .int 0, .int 1]) (rest := []) rfl rfl rfl rfl ?_
          show dd_Rn (e + 15) m_X11_throwsIf (0, [.ref 148, .int 0, .int 1], [], sM Ln (dd_u I 148 (upd (I 148) 0 0)) L c s) _
          refine dd_Rn.retK 3 (pc := 10) (ls := [.ref 148, .int 0, .int 1]) (st := [.int 0]) (M := sM Ln (dd_u I 148 (upd (I 148) 0 0)) L c s) (o := (none, .int 0, sM Ln (dd_u I 148 (upd (I 148) 0 0)) L c s)) rfl rfl (dd_Af.ret rfl ?_) (by omega)
          show dd_Rn (e + 16) m_X11_meet (31, [.ref 148, .int a1, .int a2, .null, .null], [.int 0], sM Ln (dd_u I 148 (upd (I 148) 0 0)) L c s) _
          refine dd_Rn.ite 4 (c := a1 = a2) (A := (40, [.ref 148, .int a1, .int a2, .null, .null], [.ref 148], sM Ln (dd_u I 148 (upd (I 148) 0 0)) L c s)) (B := (44, [.ref 148, .int a1, .int a2, .null, .null], [.ref 148], sM Ln (dd_u I 148 (upd (I 148) 0 0)) L c s)) rfl (fun hc => ?_) (fun hc => ?_) (by omega)
          · have h := h.1 hc
            refine dd_Rn.sub 3 (pc := 46) (ls := [.ref 148, .int a1, .int a2, .null, .null]) (st := [.int 2, .int 1, .ref 148]) (M := sM Ln (dd_u I 148 (upd (I 148) 0 0)) L c s) (x := m_X11_throwsIf) (as := [.ref 148, .int 1, .int 2]) (rest := []) rfl rfl rfl rfl ?_
            show dd_Rn (e + 15) m_X11_throwsIf (0, [.ref 148, .int 1, .int 2], [], sM Ln (dd_u I 148 (upd (I 148) 0 0)) L c s) _
            refine dd_Rn.retK 6 (pc := 10) (ls := [.ref 148, .int 1, .int 2]) (st := [.int 1]) (M := sM Ln (dd_u (dd_u I 148 (upd (I 148) 0 0)) 148 (upd (upd (I 148) 0 0) 0 2)) L c s) (o := (none, .int 1, sM Ln (dd_u (dd_u I 148 (upd (I 148) 0 0)) 148 (upd (upd (I 148) 0 0) 0 2)) L c s)) rfl rfl (dd_Af.ret rfl ?_) (by omega)
            show dd_Rn (e + 16) m_X11_meet (49, [.ref 148, .int a1, .int a2, .null, .null], [.int 1], sM Ln (dd_u (dd_u I 148 (upd (I 148) 0 0)) 148 (upd (upd (I 148) 0 0) 0 2)) L c s) _
            exact dd_Rn.retK 2 (pc := 53) (ls := [.ref 148, .int a1, .int a2, .null, .null]) (st := [.int 0]) (M := sM Ln (dd_u (dd_u I 148 (upd (I 148) 0 0)) 148 (upd (upd (I 148) 0 0) 0 2)) L c s) (o := (none, .int 0, sM Ln (dd_u (dd_u I 148 (upd (I 148) 0 0)) 148 (upd (upd (I 148) 0 0) 0 2)) L c s)) rfl rfl h (by omega)
          · have h := h.2 hc
            refine dd_Rn.sub 2 (pc := 46) (ls := [.ref 148, .int a1, .int a2, .null, .null]) (st := [.int 2, .int 0, .ref 148]) (M := sM Ln (dd_u I 148 (upd (I 148) 0 0)) L c s) (x := m_X11_throwsIf) (as := [.ref 148, .int 0, .int 2]) (rest := []) rfl rfl rfl rfl ?_
            show dd_Rn (e + 15) m_X11_throwsIf (0, [.ref 148, .int 0, .int 2], [], sM Ln (dd_u I 148 (upd (I 148) 0 0)) L c s) _
            refine dd_Rn.retK 3 (pc := 10) (ls := [.ref 148, .int 0, .int 2]) (st := [.int 0]) (M := sM Ln (dd_u I 148 (upd (I 148) 0 0)) L c s) (o := (none, .int 0, sM Ln (dd_u I 148 (upd (I 148) 0 0)) L c s)) rfl rfl (dd_Af.ret rfl ?_) (by omega)
            show dd_Rn (e + 16) m_X11_meet (49, [.ref 148, .int a1, .int a2, .null, .null], [.int 0], sM Ln (dd_u I 148 (upd (I 148) 0 0)) L c s) _
            refine dd_Rn.cV 4 (pc := 57) (ls := [.ref 148, .int a1, .int a2, .int (-1), .null]) (st := [.ref 148]) (x := m_X11_keepsAll) (as := [.ref 148]) (rest := []) rfl rfl rfl rfl h ?_
            intro I1 L1 h
            show dd_Rn (e + 16) m_X11_meet (60, [.ref 148, .int a1, .int a2, .int (-1), .null], [], sM Ln I1 L1 c s) _
            exact dd_Rn.go 2 (cf' := (63, [.ref 148, .int a1, .int a2, .int (-1), .int 0], [], sM Ln I1 L1 c s)) rfl h (by omega)

theorem w_X11_meet_63 {Ln d c s : Nat} {I : Nat → Nat → Int32} {L : Nat → Nat → Int64} {Q : dd_O → Prop} {a1 a2 a3 a4 : Int32} (hd : 28 ≤ d) (h : (((100 : Int32) < a4 → dd_Ev (d - 1) m_X11_bringsBack [.ref 148] (sM Ln I L c s) (dd_RV Ln c s (fun I1 L1 => Q (none, .int a3, sM Ln I1 L1 c s)))) ∧ (¬ ((100 : Int32) < a4) → ((a3 = (-1) → ((0 ≤ ((187 : Int32) + ((5 : Int32) * a1)) + 0 ∧ tn (((187 : Int32) + ((5 : Int32) * a1)) + 0) < 2220) ∧ ((0 ≤ ((187 : Int32) + ((5 : Int32) * a2)) + 0 ∧ tn (((187 : Int32) + ((5 : Int32) * a2)) + 0) < 2220) ∧ ((I 149 (tn (((187 : Int32) + ((5 : Int32) * a1)) + 0)) = I 149 (tn (((187 : Int32) + ((5 : Int32) * a2)) + 0)) → dd_Ev (d - 1) m_X11_oneBeat [.ref 148, .int 1] (sM Ln I L c s) (dd_RI Ln c s (fun x2 I2 L2 => dd_Rn d m_X11_meet (63, [.ref 148, .int a1, .int a2, .int a4, .int (a4 + 1)], [], sM Ln I2 L2 c s) Q))) ∧ (¬ (I 149 (tn (((187 : Int32) + ((5 : Int32) * a1)) + 0)) = I 149 (tn (((187 : Int32) + ((5 : Int32) * a2)) + 0))) → dd_Ev (d - 1) m_X11_oneBeat [.ref 148, .int 1] (sM Ln I L c s) (dd_RI Ln c s (fun x3 I3 L3 => dd_Rn d m_X11_meet (63, [.ref 148, .int a1, .int a2, .int (-1), .int (a4 + 1)], [], sM Ln I3 L3 c s) Q))))))) ∧ (¬ (a3 = (-1)) → dd_Ev (d - 1) m_X11_bringsBack [.ref 148] (sM Ln I L c s) (dd_RV Ln c s (fun I4 L4 => Q (none, .int a3, sM Ln I4 L4 c s)))))))) : dd_Rn d m_X11_meet (63, [.ref 148, .int a1, .int a2, .int a3, .int a4], [], sM Ln I L c s) Q := by
  obtain ⟨e, rfl⟩ : ∃ e, d = e + 16 := ⟨d - 16, by omega⟩
  refine dd_Rn.ite 2 (c := (100 : Int32) < a4) (A := (109, [.ref 148, .int a1, .int a2, .int a3, .int a4], [], sM Ln I L c s)) (B := (70, [.ref 148, .int a1, .int a2, .int a3, .int a4], [], sM Ln I L c s)) rfl (fun hc => ?_) (fun hc => ?_) (by omega)
  · have h := h.1 hc
    refine dd_Rn.cV 1 (pc := 110) (ls := [.ref 148, .int a1, .int a2, .int a3, .int a4]) (st := [.ref 148]) (x := m_X11_bringsBack) (as := [.ref 148]) (rest := []) rfl rfl rfl rfl h ?_
    intro I1 L1 h
    show dd_Rn (e + 16) m_X11_meet (113, [.ref 148, .int a1, .int a2, .int a3, .int a4], [], sM Ln I1 L1 c s) _
    exact dd_Rn.retK 1 (pc := 114) (ls := [.ref 148, .int a1, .int a2, .int a3, .int a4]) (st := [.int a3]) (M := sM Ln I1 L1 c s) (o := (none, .int a3, sM Ln I1 L1 c s)) rfl rfl h (by omega)
  · have h := h.2 hc
    refine dd_Rn.ite 2 (c := a3 = (-1)) (A := (75, [.ref 148, .int a1, .int a2, .int a3, .int a4], [], sM Ln I L c s)) (B := (109, [.ref 148, .int a1, .int a2, .int a3, .int a4], [], sM Ln I L c s)) rfl (fun hc => ?_) (fun hc => ?_) (by omega)
    · have h := h.1 hc
      refine dd_Rn.sub 3 (pc := 78) (ls := [.ref 148, .int a1, .int a2, .int a3, .int a4]) (st := [.int 0, .int a1, .ref 148]) (M := sM Ln I L c s) (x := m_X11_of) (as := [.ref 148, .int a1, .int 0]) (rest := []) rfl rfl rfl rfl ?_
      show dd_Rn (e + 15) m_X11_of (0, [.ref 148, .int a1, .int 0], [], sM Ln I L c s) _
      refine dd_Rn.sub 4 (pc := 6) (ls := [.ref 148, .int a1, .int 0]) (st := [.int 0, .int a1, .ref 149]) (M := sM Ln I L c s) (x := m_X11_at) (as := [.int a1, .int 0]) (rest := [.ref 149]) rfl rfl rfl rfl ?_
      show dd_Rn (e + 14) m_X11_at (0, [.int a1, .int 0], [], sM Ln I L c s) _
      refine dd_Rn.retK 7 (pc := 9) (ls := [.int a1, .int 0]) (st := [.int (((187 : Int32) + ((5 : Int32) * a1)) + 0)]) (M := sM Ln I L c s) (o := (none, .int (((187 : Int32) + ((5 : Int32) * a1)) + 0), sM Ln I L c s)) rfl rfl (dd_Af.ret rfl ?_) (by omega)
      show dd_Rn (e + 15) m_X11_of (9, [.ref 148, .int a1, .int 0], [.int (((187 : Int32) + ((5 : Int32) * a1)) + 0), .ref 149], sM Ln I L c s) _
      obtain ⟨hc, h⟩ := h
      refine dd_Rn.ci (fun j0 => (9, [.ref 148, .int a1, .int 0], [.int j0, .ref 149], sM Ln I L c s)) (fun j0 => (10, [.ref 148, .int a1, .int 0], [.int (I 149 (tn j0))], sM Ln I L c s)) (fun j0 => 0 ≤ j0 ∧ tn j0 < 2220) (((187 : Int32) + ((5 : Int32) * a1)) + 0) (fun j0 hc h => dd_Rn.chk 0 (c := 0 ≤ j0 ∧ tn j0 < 2220) (A := (10, [.ref 148, .int a1, .int 0], [.int (I 149 (tn j0))], sM Ln I L c s)) rfl hc h (by omega)) hc ?_
      refine dd_Rn.se (cf := (10, [.ref 148, .int a1, .int 0], [.int (I 149 (tn (((187 : Int32) + ((5 : Int32) * a1)) + 0)))], sM Ln I L c s)) ?_
      refine dd_Rn.retK 0 (pc := 10) (ls := [.ref 148, .int a1, .int 0]) (st := [.int (I 149 (tn (((187 : Int32) + ((5 : Int32) * a1)) + 0)))]) (M := sM Ln I L c s) (o := (none, .int (I 149 (tn (((187 : Int32) + ((5 : Int32) * a1)) + 0))), sM Ln I L c s)) rfl rfl (dd_Af.ret rfl ?_) (by omega)
      show dd_Rn (e + 16) m_X11_meet (81, [.ref 148, .int a1, .int a2, .int a3, .int a4], [.int (I 149 (tn (((187 : Int32) + ((5 : Int32) * a1)) + 0)))], sM Ln I L c s) _
      refine dd_Rn.sub 3 (pc := 84) (ls := [.ref 148, .int a1, .int a2, .int a3, .int a4]) (st := [.int 0, .int a2, .ref 148, .int (I 149 (tn (((187 : Int32) + ((5 : Int32) * a1)) + 0)))]) (M := sM Ln I L c s) (x := m_X11_of) (as := [.ref 148, .int a2, .int 0]) (rest := [.int (I 149 (tn (((187 : Int32) + ((5 : Int32) * a1)) + 0)))]) rfl rfl rfl rfl ?_
      show dd_Rn (e + 15) m_X11_of (0, [.ref 148, .int a2, .int 0], [], sM Ln I L c s) _
      refine dd_Rn.sub 4 (pc := 6) (ls := [.ref 148, .int a2, .int 0]) (st := [.int 0, .int a2, .ref 149]) (M := sM Ln I L c s) (x := m_X11_at) (as := [.int a2, .int 0]) (rest := [.ref 149]) rfl rfl rfl rfl ?_
      show dd_Rn (e + 14) m_X11_at (0, [.int a2, .int 0], [], sM Ln I L c s) _
      refine dd_Rn.retK 7 (pc := 9) (ls := [.int a2, .int 0]) (st := [.int (((187 : Int32) + ((5 : Int32) * a2)) + 0)]) (M := sM Ln I L c s) (o := (none, .int (((187 : Int32) + ((5 : Int32) * a2)) + 0), sM Ln I L c s)) rfl rfl (dd_Af.ret rfl ?_) (by omega)
      show dd_Rn (e + 15) m_X11_of (9, [.ref 148, .int a2, .int 0], [.int (((187 : Int32) + ((5 : Int32) * a2)) + 0), .ref 149], sM Ln I L c s) _
      obtain ⟨hc, h⟩ := h
      refine dd_Rn.ci (fun j0 => (9, [.ref 148, .int a2, .int 0], [.int j0, .ref 149], sM Ln I L c s)) (fun j0 => (10, [.ref 148, .int a2, .int 0], [.int (I 149 (tn j0))], sM Ln I L c s)) (fun j0 => 0 ≤ j0 ∧ tn j0 < 2220) (((187 : Int32) + ((5 : Int32) * a2)) + 0) (fun j0 hc h => dd_Rn.chk 0 (c := 0 ≤ j0 ∧ tn j0 < 2220) (A := (10, [.ref 148, .int a2, .int 0], [.int (I 149 (tn j0))], sM Ln I L c s)) rfl hc h (by omega)) hc ?_
      refine dd_Rn.se (cf := (10, [.ref 148, .int a2, .int 0], [.int (I 149 (tn (((187 : Int32) + ((5 : Int32) * a2)) + 0)))], sM Ln I L c s)) ?_
      refine dd_Rn.retK 0 (pc := 10) (ls := [.ref 148, .int a2, .int 0]) (st := [.int (I 149 (tn (((187 : Int32) + ((5 : Int32) * a2)) + 0)))]) (M := sM Ln I L c s) (o := (none, .int (I 149 (tn (((187 : Int32) + ((5 : Int32) * a2)) + 0))), sM Ln I L c s)) rfl rfl (dd_Af.ret rfl ?_) (by omega)
      show dd_Rn (e + 16) m_X11_meet (87, [.ref 148, .int a1, .int a2, .int a3, .int a4], [.int (I 149 (tn (((187 : Int32) + ((5 : Int32) * a2)) + 0))), .int (I 149 (tn (((187 : Int32) + ((5 : Int32) * a1)) + 0)))], sM Ln I L c s) _
      refine dd_Rn.ite 0 (c := I 149 (tn (((187 : Int32) + ((5 : Int32) * a1)) + 0)) = I 149 (tn (((187 : Int32) + ((5 : Int32) * a2)) + 0))) (A := (90, [.ref 148, .int a1, .int a2, .int a3, .int a4], [], sM Ln I L c s)) (B := (95, [.ref 148, .int a1, .int a2, .int a3, .int a4], [], sM Ln I L c s)) rfl (fun hc => ?_) (fun hc => ?_) (by omega)
      · have h := h.1 hc
        refine dd_Rn.cI 5 (pc := 99) (ls := [.ref 148, .int a1, .int a2, .int a4, .int a4]) (st := [.int 1, .ref 148]) (x := m_X11_oneBeat) (as := [.ref 148, .int 1]) (rest := []) rfl rfl rfl rfl h ?_
        intro x2 I2 L2 h
        show dd_Rn (e + 16) m_X11_meet (102, [.ref 148, .int a1, .int a2, .int a4, .int a4], [.int x2], sM Ln I2 L2 c s) _
        exact dd_Rn.go 3 (cf' := (63, [.ref 148, .int a1, .int a2, .int a4, .int (a4 + 1)], [], sM Ln I2 L2 c s)) rfl h (by omega)
      · have h := h.2 hc
        refine dd_Rn.cI 4 (pc := 99) (ls := [.ref 148, .int a1, .int a2, .int (-1), .int a4]) (st := [.int 1, .ref 148]) (x := m_X11_oneBeat) (as := [.ref 148, .int 1]) (rest := []) rfl rfl rfl rfl h ?_
        intro x3 I3 L3 h
        show dd_Rn (e + 16) m_X11_meet (102, [.ref 148, .int a1, .int a2, .int (-1), .int a4], [.int x3], sM Ln I3 L3 c s) _
        exact dd_Rn.go 3 (cf' := (63, [.ref 148, .int a1, .int a2, .int (-1), .int (a4 + 1)], [], sM Ln I3 L3 c s)) rfl h (by omega)
    · have h := h.2 hc
      refine dd_Rn.cV 1 (pc := 110) (ls := [.ref 148, .int a1, .int a2, .int a3, .int a4]) (st := [.ref 148]) (x := m_X11_bringsBack) (as := [.ref 148]) (rest := []) rfl rfl rfl rfl h ?_
      intro I4 L4 h
      show dd_Rn (e + 16) m_X11_meet (113, [.ref 148, .int a1, .int a2, .int a3, .int a4], [], sM Ln I4 L4 c s) _
      exact dd_Rn.retK 1 (pc := 114) (ls := [.ref 148, .int a1, .int a2, .int a3, .int a4]) (st := [.int a3]) (M := sM Ln I4 L4 c s) (o := (none, .int a3, sM Ln I4 L4 c s)) rfl rfl h (by omega)
