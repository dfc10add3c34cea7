/-! Region lemmas, written by program (gen/regions_all.py) -/
theorem w_X10_feed_0 {Ln d c s : Nat} {I : Nat → Nat → Int32} {L : Nat → Nat → Int64} {Q : dd_O → Prop} {a1 a2 a3 a4 a5 : Int32} (hd : 28 ≤ d) (h : (((I 0 9) + 20 ≤ 400 → dd_Ev (d - 1) m_X10_putBytes [.ref 0, .int a1] (sM Ln I L c s) (dd_RV Ln c s (fun I1 L1 => dd_Ev (d - 1) m_X10_putBytes [.ref 0, .int a2] (sM Ln I1 L1 c s) (dd_RV Ln c s (fun I2 L2 => dd_Ev (d - 1) m_X10_putBytes [.ref 0, .int a3] (sM Ln I2 L2 c s) (dd_RV Ln c s (fun I3 L3 => dd_Ev (d - 1) m_X10_putBytes [.ref 0, .int a4] (sM Ln I3 L3 c s) (dd_RV Ln c s (fun I4 L4 => dd_Ev (d - 1) m_X10_putBytes [.ref 0, .int a5] (sM Ln I4 L4 c s) (dd_RV Ln c s (fun I5 L5 => Q (none, .int (I5 0 9), sM Ln I5 L5 c s)))))))))))) ∧ (¬ ((I 0 9) + 20 ≤ 400) → Q (none, .int (-1), sM Ln I L c s)))) : dd_Ev d m_X10_feed [.ref 0, .int a1, .int a2, .int a3, .int a4, .int a5] (sM Ln I L c s) Q := by
  obtain ⟨e, rfl⟩ : ∃ e, d = e + 16 := ⟨d - 16, by omega⟩
  show dd_Rn (e + 16) m_X10_feed (0, [.ref 0, .int a1, .int a2, .int a3, .int a4, .int a5], [], sM Ln I L c s) Q
  refine dd_Rn.ite 5 (c := (I 0 9) + 20 ≤ 400) (A := (15, [.ref 0, .int a1, .int a2, .int a3, .int a4, .int a5], [], sM Ln I L c s)) (B := (13, [.ref 0, .int a1, .int a2, .int a3, .int a4, .int a5], [], sM Ln I L c s)) rfl (fun hc => ?_) (fun hc => ?_) (by omega)
  · have h := h.1 hc
    refine dd_Rn.cV 2 (pc := 17) (ls := [.ref 0, .int a1, .int a2, .int a3, .int a4, .int a5]) (st := [.int a1, .ref 0]) (x := m_X10_putBytes) (as := [.ref 0, .int a1]) (rest := []) rfl rfl rfl rfl h ?_
    intro I1 L1 h
    show dd_Rn (e + 16) m_X10_feed (20, [.ref 0, .int a1, .int a2, .int a3, .int a4, .int a5], [], sM Ln I1 L1 c s) _
    refine dd_Rn.cV 2 (pc := 22) (ls := [.ref 0, .int a1, .int a2, .int a3, .int a4, .int a5]) (st := [.int a2, .ref 0]) (x := m_X10_putBytes) (as := [.ref 0, .int a2]) (rest := []) rfl rfl rfl rfl h ?_
    intro I2 L2 h
    show dd_Rn (e + 16) m_X10_feed (25, [.ref 0, .int a1, .int a2, .int a3, .int a4, .int a5], [], sM Ln I2 L2 c s) _
    refine dd_Rn.cV 2 (pc := 27) (ls := [.ref 0, .int a1, .int a2, .int a3, .int a4, .int a5]) (st := [.int a3, .ref 0]) (x := m_X10_putBytes) (as := [.ref 0, .int a3]) (rest := []) rfl rfl rfl rfl h ?_
    intro I3 L3 h
    show dd_Rn (e + 16) m_X10_feed (30, [.ref 0, .int a1, .int a2, .int a3, .int a4, .int a5], [], sM Ln I3 L3 c s) _
    refine dd_Rn.cV 2 (pc := 33) (ls := [.ref 0, .int a1, .int a2, .int a3, .int a4, .int a5]) (st := [.int a4, .ref 0]) (x := m_X10_putBytes) (as := [.ref 0, .int a4]) (rest := []) rfl rfl rfl rfl h ?_
    intro I4 L4 h
    show dd_Rn (e + 16) m_X10_feed (36, [.ref 0, .int a1, .int a2, .int a3, .int a4, .int a5], [], sM Ln I4 L4 c s) _
    refine dd_Rn.cV 2 (pc := 39) (ls := [.ref 0, .int a1, .int a2, .int a3, .int a4, .int a5]) (st := [.int a5, .ref 0]) (x := m_X10_putBytes) (as := [.ref 0, .int a5]) (rest := []) rfl rfl rfl rfl h ?_
    intro I5 L5 h
    show dd_Rn (e + 16) m_X10_feed (42, [.ref 0, .int a1, .int a2, .int a3, .int a4, .int a5], [], sM Ln I5 L5 c s) _
    exact dd_Rn.retK 2 (pc := 46) (ls := [.ref 0, .int a1, .int a2, .int a3, .int a4, .int a5]) (st := [.int (I5 0 9)]) (M := sM Ln I5 L5 c s) (o := (none, .int (I5 0 9), sM Ln I5 L5 c s)) rfl rfl h (by omega)
  · have h := h.2 hc
    exact dd_Rn.retK 1 (pc := 14) (ls := [.ref 0, .int a1, .int a2, .int a3, .int a4, .int a5]) (st := [.int (-1)]) (M := sM Ln I L c s) (o := (none, .int (-1), sM Ln I L c s)) rfl rfl h (by omega)

theorem w_X10_putBytes_0 {Ln d c s : Nat} {I : Nat → Nat → Int32} {L : Nat → Nat → Int64} {Q : dd_O → Prop} {a1 : Int32} (hd : 28 ≤ d) (h : dd_Rn d m_X10_putBytes (3, [.ref 0, .int a1, .int 24], [], sM Ln I L c s) Q) : dd_Ev d m_X10_putBytes [.ref 0, .int a1] (sM Ln I L c s) Q := by
  obtain ⟨e, rfl⟩ : ∃ e, d = e + 16 := ⟨d - 16, by omega⟩
  show dd_Rn (e + 16) m_X10_putBytes (0, [.ref 0, .int a1, .null], [], sM Ln I L c s) Q
  exact dd_Rn.go 2 (cf' := (3, [.ref 0, .int a1, .int 24], [], sM Ln I L c s)) rfl h (by omega)

theorem w_X10_putBytes_3 {Ln d c s : Nat} {I : Nat → Nat → Int32} {L : Nat → Nat → Int64} {Q : dd_O → Prop} {a1 a2 : Int32} (hd : 28 ≤ d) (h : ((a2 < 0 → Q (none, .null, sM Ln I L c s)) ∧ (¬ (a2 < 0) → (((400 : Int32) ≤ I 0 9 → dd_Rn d m_X10_putBytes (3, [.ref 0, .int a1, .int (a2 + (-8))], [], sM Ln I L c s) Q) ∧ (¬ ((400 : Int32) ≤ I 0 9) → ((0 ≤ I 0 9 ∧ tn (I 0 9) < 400) ∧ dd_Rn d m_X10_putBytes (3, [.ref 0, .int a1, .int (a2 + (-8))], [], sM Ln (dd_u (dd_u I 129 (upd (I 129) (tn (I 0 9)) (((a1.toUInt32 >>> (a2.toUInt32 &&& Int32.toUInt32 31)).toInt32) &&& (255 : Int32)))) 0 (upd (I 0) 9 ((I 0 9) + 1))) L c s) Q)))))) : dd_Rn d m_X10_putBytes (3, [.ref 0, .int a1, .int a2], [], sM Ln I L c s) Q := by
  obtain ⟨e, rfl⟩ : ∃ e, d = e + 16 := ⟨d - 16, by omega⟩
  refine dd_Rn.ite 1 (c := a2 < 0) (A := (51, [.ref 0, .int a1, .int a2], [], sM Ln I L c s)) (B := (7, [.ref 0, .int a1, .int a2], [], sM Ln I L c s)) rfl (fun hc => ?_) (fun hc => ?_) (by omega)
  · have h := h.1 hc
    exact dd_Rn.retK 0 (pc := 51) (ls := [.ref 0, .int a1, .int a2]) (st := []) (M := sM Ln I L c s) (o := (none, .null, sM Ln I L c s)) rfl rfl h (by omega)
  · have h := h.2 hc
    refine dd_Rn.ite 5 (c := (400 : Int32) ≤ I 0 9) (A := (45, [.ref 0, .int a1, .int a2], [], sM Ln I L c s)) (B := (19, [.ref 0, .int a1, .int a2], [], sM Ln I L c s)) rfl (fun hc => ?_) (fun hc => ?_) (by omega)
    · have h := h.1 hc
      exact dd_Rn.go 2 (cf' := (3, [.ref 0, .int a1, .int (a2 + (-8))], [], sM Ln I L c s)) rfl h (by omega)
    · have h := h.2 hc
      obtain ⟨hc, h⟩ := h
      refine dd_Rn.go 9 (cf' := (34, [.ref 0, .int a1, .int a2], [.int (((a1.toUInt32 >>> (a2.toUInt32 &&& Int32.toUInt32 31)).toInt32) &&& (255 : Int32)), .int (I 0 9), .ref 129], sM Ln I L c s)) rfl ?_ (by omega)
      refine dd_Rn.ci (fun j0 => (34, [.ref 0, .int a1, .int a2], [.int (((a1.toUInt32 >>> (a2.toUInt32 &&& Int32.toUInt32 31)).toInt32) &&& (255 : Int32)), .int j0, .ref 129], sM Ln I L c s)) (fun j0 => (35, [.ref 0, .int a1, .int a2], [], sM Ln (dd_u I 129 (upd (I 129) (tn j0) (((a1.toUInt32 >>> (a2.toUInt32 &&& Int32.toUInt32 31)).toInt32) &&& (255 : Int32)))) L c s)) (fun j0 => 0 ≤ j0 ∧ tn j0 < 400) (I 0 9) (fun j0 hc h => dd_Rn.chk 0 (c := 0 ≤ j0 ∧ tn j0 < 400) (A := (35, [.ref 0, .int a1, .int a2], [], sM Ln (dd_u I 129 (upd (I 129) (tn j0) (((a1.toUInt32 >>> (a2.toUInt32 &&& Int32.toUInt32 31)).toInt32) &&& (255 : Int32)))) L c s)) rfl hc h (by omega)) hc ?_
      refine dd_Rn.se (cf := (35, [.ref 0, .int a1, .int a2], [], sM Ln (dd_u I 129 (upd (I 129) (tn (I 0 9)) (((a1.toUInt32 >>> (a2.toUInt32 &&& Int32.toUInt32 31)).toInt32) &&& (255 : Int32)))) L c s)) ?_
      exact dd_Rn.go 8 (cf' := (3, [.ref 0, .int a1, .int (a2 + (-8))], [], sM Ln (dd_u (dd_u I 129 (upd (I 129) (tn (I 0 9)) (((a1.toUInt32 >>> (a2.toUInt32 &&& Int32.toUInt32 31)).toInt32) &&& (255 : Int32)))) 0 (upd (I 0) 9 ((I 0 9) + 1))) L c s)) rfl h (by omega)

theorem w_X10_end_0 {Ln d c s : Nat} {I : Nat → Nat → Int32} {L : Nat → Nat → Int64} {Q : dd_O → Prop} {a1 : Int32} (hd : 28 ≤ d) (h : ((a1 < 0 → Q (none, .int 0, sM Ln I L c s)) ∧ (¬ (a1 < 0) → ((a1 ≤ I 0 9 → Q (none, .int 1, sM Ln (dd_u I 0 (upd (I 0) 9 a1)) L c s)) ∧ (¬ (a1 ≤ I 0 9) → Q (none, .int 0, sM Ln I L c s)))))) : dd_Ev d m_X10_end [.ref 0, .int a1] (sM Ln I L c s) Q := by
  obtain ⟨e, rfl⟩ : ∃ e, d = e + 16 := ⟨d - 16, by omega⟩
  show dd_Rn (e + 16) m_X10_end (0, [.ref 0, .int a1], [], sM Ln I L c s) Q
  refine dd_Rn.ite 1 (c := a1 < 0) (A := (12, [.ref 0, .int a1], [], sM Ln I L c s)) (B := (4, [.ref 0, .int a1], [], sM Ln I L c s)) rfl (fun hc => ?_) (fun hc => ?_) (by omega)
  · have h := h.1 hc
    exact dd_Rn.retK 1 (pc := 13) (ls := [.ref 0, .int a1]) (st := [.int 0]) (M := sM Ln I L c s) (o := (none, .int 0, sM Ln I L c s)) rfl rfl h (by omega)
  · have h := h.2 hc
    refine dd_Rn.ite 3 (c := a1 ≤ I 0 9) (A := (14, [.ref 0, .int a1], [], sM Ln I L c s)) (B := (12, [.ref 0, .int a1], [], sM Ln I L c s)) rfl (fun hc => ?_) (fun hc => ?_) (by omega)
    · have h := h.1 hc
      exact dd_Rn.retK 4 (pc := 20) (ls := [.ref 0, .int a1]) (st := [.int 1]) (M := sM Ln (dd_u I 0 (upd (I 0) 9 a1)) L c s) (o := (none, .int 1, sM Ln (dd_u I 0 (upd (I 0) 9 a1)) L c s)) rfl rfl h (by omega)
    · have h := h.2 hc
      exact dd_Rn.retK 1 (pc := 13) (ls := [.ref 0, .int a1]) (st := [.int 0]) (M := sM Ln I L c s) (o := (none, .int 0, sM Ln I L c s)) rfl rfl h (by omega)

theorem w_X10_wood_0 {Ln d c s : Nat} {I : Nat → Nat → Int32} {L : Nat → Nat → Int64} {Q : dd_O → Prop} (hd : 28 ≤ d) (h : dd_Ev (d - 1) m_X8_copyFrom [.ref 9, .ref 1] (sM Ln I L c s) (dd_RV Ln c s (fun I1 L1 => dd_Ev (d - 1) m_X4_readLines [.ref 130, .int (I1 0 9), .int 14] (sM Ln (dd_u I1 0 (upd (I1 0) 9 0)) L1 c s) (dd_RI Ln c s (fun x2 I2 L2 => ((x2 = (-1) → dd_Ev (d - 1) m_X8_copyFrom [.ref 1, .ref 9] (sM Ln (dd_u I2 0 (upd (I2 0) 10 (I2 130 5))) L2 c s) (dd_RV Ln c s (fun I3 L3 => Q (some 0, .null, sM Ln I3 L3 (c + 1) (s + 6))))) ∧ (¬ (x2 = (-1)) → ((I2 9 11 < 12 → Q (none, .int ((I2 1 11) + 1), sM Ln (dd_u (dd_u (dd_u I2 0 (upd (I2 0) 10 (I2 130 5))) 1 (upd (I2 1) 11 ((I2 1 11) + 1))) 31 (upd (I2 31) 2 0)) L2 c s)) ∧ (¬ (I2 9 11 < 12) → dd_Ev (d - 1) m_X8_copyFrom [.ref 1, .ref 9] (sM Ln (dd_u I2 0 (upd (I2 0) 10 (I2 130 5))) L2 c s) (dd_RV Ln c s (fun I4 L4 => Q (some 1, .null, sM Ln I4 L4 (c + 1) (s + 6))))))))))))) : dd_Ev d m_X10_wood [.ref 0] (sM Ln I L c s) Q := by
  obtain ⟨e, rfl⟩ : ∃ e, d = e + 16 := ⟨d - 16, by omega⟩
  show dd_Rn (e + 16) m_X10_wood (0, [.ref 0, .null], [], sM Ln I L c s) Q
  refine dd_Rn.cV 4 (pc := 8) (ls := [.ref 0, .null]) (st := [.ref 1, .ref 9]) (x := m_X8_copyFrom) (as := [.ref 9, .ref 1]) (rest := []) rfl rfl rfl rfl h ?_
  intro I1 L1 h
  show dd_Rn (e + 16) m_X10_wood (11, [.ref 0, .null], [], sM Ln I1 L1 c s) _
  refine dd_Rn.sub 3 (pc := 16) (ls := [.ref 0, .null]) (st := [.ref 0, .ref 130]) (M := sM Ln I1 L1 c s) (x := m_X10_useTapeUp) (as := [.ref 0]) (rest := [.ref 130]) rfl rfl rfl rfl ?_
  show dd_Rn (e + 15) m_X10_useTapeUp (0, [.ref 0, .null], [], sM Ln I1 L1 c s) _
  refine dd_Rn.retK 7 (pc := 11) (ls := [.ref 0, .int (I1 0 9)]) (st := [.int (I1 0 9)]) (M := sM Ln (dd_u I1 0 (upd (I1 0) 9 0)) L1 c s) (o := (none, .int (I1 0 9), sM Ln (dd_u I1 0 (upd (I1 0) 9 0)) L1 c s)) rfl rfl (dd_Af.ret rfl ?_) (by omega)
  show dd_Rn (e + 16) m_X10_wood (19, [.ref 0, .null], [.int (I1 0 9), .ref 130], sM Ln (dd_u I1 0 (upd (I1 0) 9 0)) L1 c s) _
  refine dd_Rn.cI 1 (pc := 21) (ls := [.ref 0, .null]) (st := [.int 14, .int (I1 0 9), .ref 130]) (x := m_X4_readLines) (as := [.ref 130, .int (I1 0 9), .int 14]) (rest := []) rfl rfl rfl rfl h ?_
  intro x2 I2 L2 h
  show dd_Rn (e + 16) m_X10_wood (24, [.ref 0, .null], [.int x2], sM Ln I2 L2 c s) _
  refine dd_Rn.ite 8 (c := x2 = (-1)) (A := (41, [.ref 0, .int x2], [], sM Ln (dd_u I2 0 (upd (I2 0) 10 (I2 130 5))) L2 c s)) (B := (62, [.ref 0, .int x2], [], sM Ln (dd_u I2 0 (upd (I2 0) 10 (I2 130 5))) L2 c s)) rfl (fun hc => ?_) (fun hc => ?_) (by omega)
  · have h := h.1 hc
    refine dd_Rn.cV 4 (pc := 49) (ls := [.ref 0, .int x2]) (st := [.ref 9, .ref 1]) (x := m_X8_copyFrom) (as := [.ref 1, .ref 9]) (rest := []) rfl rfl rfl rfl h ?_
    intro I3 L3 h
    show dd_Rn (e + 16) m_X10_wood (52, [.ref 0, .int x2], [], sM Ln I3 L3 c s) _
    exact dd_Rn.throw 0 (pc := 52) (ls := [.ref 0, .int x2]) (st := []) (M := sM Ln I3 L3 c s) rfl rfl rfl (by omega) rfl h
  · have h := h.2 hc
    refine dd_Rn.ite 4 (c := I2 9 11 < 12) (A := (95, [.ref 0, .int x2], [], sM Ln (dd_u I2 0 (upd (I2 0) 10 (I2 130 5))) L2 c s)) (B := (74, [.ref 0, .int x2], [], sM Ln (dd_u I2 0 (upd (I2 0) 10 (I2 130 5))) L2 c s)) rfl (fun hc => ?_) (fun hc => ?_) (by omega)
    · have h := h.1 hc
      refine dd_Rn.sub 9 (pc := 112) (ls := [.ref 0, .int x2]) (st := [.ref 31]) (M := sM Ln (dd_u (dd_u I2 0 (upd (I2 0) 10 (I2 130 5))) 1 (upd (I2 1) 11 ((I2 1 11) + 1))) L2 c s) (x := m_X0_forget) (as := [.ref 31]) (rest := []) rfl rfl rfl rfl ?_
      show dd_Rn (e + 15) m_X0_forget (0, [.ref 31], [], sM Ln (dd_u (dd_u I2 0 (upd (I2 0) 10 (I2 130 5))) 1 (upd (I2 1) 11 ((I2 1 11) + 1))) L2 c s) _
      refine dd_Rn.retK 3 (pc := 5) (ls := [.ref 31]) (st := []) (M := sM Ln (dd_u (dd_u (dd_u I2 0 (upd (I2 0) 10 (I2 130 5))) 1 (upd (I2 1) 11 ((I2 1 11) + 1))) 31 (upd (I2 31) 2 0)) L2 c s) (o := (none, .null, sM Ln (dd_u (dd_u (dd_u I2 0 (upd (I2 0) 10 (I2 130 5))) 1 (upd (I2 1) 11 ((I2 1 11) + 1))) 31 (upd (I2 31) 2 0)) L2 c s)) rfl rfl (dd_Af.ret rfl ?_) (by omega)
      show dd_Rn (e + 16) m_X10_wood (115, [.ref 0, .int x2], [], sM Ln (dd_u (dd_u (dd_u I2 0 (upd (I2 0) 10 (I2 130 5))) 1 (upd (I2 1) 11 ((I2 1 11) + 1))) 31 (upd (I2 31) 2 0)) L2 c s) _
      exact dd_Rn.retK 3 (pc := 122) (ls := [.ref 0, .int x2]) (st := [.int ((I2 1 11) + 1)]) (M := sM Ln (dd_u (dd_u (dd_u I2 0 (upd (I2 0) 10 (I2 130 5))) 1 (upd (I2 1) 11 ((I2 1 11) + 1))) 31 (upd (I2 31) 2 0)) L2 c s) (o := (none, .int ((I2 1 11) + 1), sM Ln (dd_u (dd_u (dd_u I2 0 (upd (I2 0) 10 (I2 130 5))) 1 (upd (I2 1) 11 ((I2 1 11) + 1))) 31 (upd (I2 31) 2 0)) L2 c s)) rfl rfl h (by omega)
    · have h := h.2 hc
      refine dd_Rn.cV 4 (pc := 82) (ls := [.ref 0, .int x2]) (st := [.ref 9, .ref 1]) (x := m_X8_copyFrom) (as := [.ref 1, .ref 9]) (rest := []) rfl rfl rfl rfl h ?_
      intro I4 L4 h
      show dd_Rn (e + 16) m_X10_wood (85, [.ref 0, .int x2], [], sM Ln I4 L4 c s) _
      exact dd_Rn.throw 0 (pc := 85) (ls := [.ref 0, .int x2]) (st := []) (M := sM Ln I4 L4 c s) rfl rfl rfl (by omega) rfl h

theorem w_X10_law_0 {Ln d c s : Nat} {I : Nat → Nat → Int32} {L : Nat → Nat → Int64} {Q : dd_O → Prop} (hd : 28 ≤ d) (h : dd_Ev (d - 1) m_X4_readLines [.ref 131, .int (I 0 9), .int 12] (sM Ln (dd_u (dd_u (dd_u I 27 (upd (I 27) 1 0)) 27 (upd (upd (I 27) 1 0) 2 (-1))) 0 (upd (I 0) 9 0)) L c s) (dd_RI Ln c s (fun x1 I1 L1 => ((x1 = (-1) → Q (some 0, .null, sM Ln (dd_u I1 0 (upd (I1 0) 10 (I1 131 5))) L1 (c + 1) (s + 6))) ∧ (¬ (x1 = (-1)) → dd_Ev (d - 1) m_X2_copyFrom [.ref 25, .ref 27] (sM Ln (dd_u (dd_u I1 0 (upd (I1 0) 10 (I1 131 5))) 27 (upd (I1 27) 2 x1)) L1 c s) (dd_RV Ln c s (fun I2 L2 => Q (none, .int x1, sM Ln (dd_u I2 31 (upd (I2 31) 2 0)) L2 c s)))))))) : dd_Ev d m_X10_law [.ref 0] (sM Ln I L c s) Q := by
  obtain ⟨e, rfl⟩ : ∃ e, d = e + 16 := ⟨d - 16, by omega⟩
  show dd_Rn (e + 16) m_X10_law (0, [.ref 0, .null], [], sM Ln I L c s) Q
  refine dd_Rn.sub 2 (pc := 4) (ls := [.ref 0, .null]) (st := [.ref 27]) (M := sM Ln I L c s) (x := m_X2_clear) (as := [.ref 27]) (rest := []) rfl rfl rfl rfl ?_
  show dd_Rn (e + 15) m_X2_clear (0, [.ref 27], [], sM Ln I L c s) _
  refine dd_Rn.retK 6 (pc := 10) (ls := [.ref 27]) (st := []) (M := sM Ln (dd_u (dd_u I 27 (upd (I 27) 1 0)) 27 (upd (upd (I 27) 1 0) 2 (-1))) L c s) (o := (none, .null, sM Ln (dd_u (dd_u I 27 (upd (I 27) 1 0)) 27 (upd (upd (I 27) 1 0) 2 (-1))) L c s)) rfl rfl (dd_Af.ret rfl ?_) (by omega)
  show dd_Rn (e + 16) m_X10_law (7, [.ref 0, .null], [], sM Ln (dd_u (dd_u I 27 (upd (I 27) 1 0)) 27 (upd (upd (I 27) 1 0) 2 (-1))) L c s) _
  refine dd_Rn.sub 3 (pc := 12) (ls := [.ref 0, .null]) (st := [.ref 0, .ref 131]) (M := sM Ln (dd_u (dd_u I 27 (upd (I 27) 1 0)) 27 (upd (upd (I 27) 1 0) 2 (-1))) L c s) (x := m_X10_useTapeUp) (as := [.ref 0]) (rest := [.ref 131]) rfl rfl rfl rfl ?_
  show dd_Rn (e + 15) m_X10_useTapeUp (0, [.ref 0, .null], [], sM Ln (dd_u (dd_u I 27 (upd (I 27) 1 0)) 27 (upd (upd (I 27) 1 0) 2 (-1))) L c s) _
  refine dd_Rn.retK 7 (pc := 11) (ls := [.ref 0, .int (I 0 9)]) (st := [.int (I 0 9)]) (M := sM Ln (dd_u (dd_u (dd_u I 27 (upd (I 27) 1 0)) 27 (upd (upd (I 27) 1 0) 2 (-1))) 0 (upd (I 0) 9 0)) L c s) (o := (none, .int (I 0 9), sM Ln (dd_u (dd_u (dd_u I 27 (upd (I 27) 1 0)) 27 (upd (upd (I 27) 1 0) 2 (-1))) 0 (upd (I 0) 9 0)) L c s)) rfl rfl (dd_Af.ret rfl ?_) (by omega)
  show dd_Rn (e + 16) m_X10_law (15, [.ref 0, .null], [.int (I 0 9), .ref 131], sM Ln (dd_u (dd_u (dd_u I 27 (upd (I 27) 1 0)) 27 (upd (upd (I 27) 1 0) 2 (-1))) 0 (upd (I 0) 9 0)) L c s) _
  refine dd_Rn.cI 1 (pc := 17) (ls := [.ref 0, .null]) (st := [.int 12, .int (I 0 9), .ref 131]) (x := m_X4_readLines) (as := [.ref 131, .int (I 0 9), .int 12]) (rest := []) rfl rfl rfl rfl h ?_
  intro x1 I1 L1 h
  show dd_Rn (e + 16) m_X10_law (20, [.ref 0, .null], [.int x1], sM Ln I1 L1 c s) _
  refine dd_Rn.ite 8 (c := x1 = (-1)) (A := (37, [.ref 0, .int x1], [], sM Ln (dd_u I1 0 (upd (I1 0) 10 (I1 131 5))) L1 c s)) (B := (47, [.ref 0, .int x1], [], sM Ln (dd_u I1 0 (upd (I1 0) 10 (I1 131 5))) L1 c s)) rfl (fun hc => ?_) (fun hc => ?_) (by omega)
  · have h := h.1 hc
    exact dd_Rn.throw 0 (pc := 37) (ls := [.ref 0, .int x1]) (st := []) (M := sM Ln (dd_u I1 0 (upd (I1 0) 10 (I1 131 5))) L1 c s) rfl rfl rfl (by omega) rfl h
  · have h := h.2 hc
    refine dd_Rn.cV 8 (pc := 63) (ls := [.ref 0, .int x1]) (st := [.ref 27, .ref 25]) (x := m_X2_copyFrom) (as := [.ref 25, .ref 27]) (rest := []) rfl rfl rfl rfl h ?_
    intro I2 L2 h
    show dd_Rn (e + 16) m_X10_law (66, [.ref 0, .int x1], [], sM Ln I2 L2 c s) _
    refine dd_Rn.sub 2 (pc := 70) (ls := [.ref 0, .int x1]) (st := [.ref 31]) (M := sM Ln I2 L2 c s) (x := m_X0_forget) (as := [.ref 31]) (rest := []) rfl rfl rfl rfl ?_
    show dd_Rn (e + 15) m_X0_forget (0, [.ref 31], [], sM Ln I2 L2 c s) _
    refine dd_Rn.retK 3 (pc := 5) (ls := [.ref 31]) (st := []) (M := sM Ln (dd_u I2 31 (upd (I2 31) 2 0)) L2 c s) (o := (none, .null, sM Ln (dd_u I2 31 (upd (I2 31) 2 0)) L2 c s)) rfl rfl (dd_Af.ret rfl ?_) (by omega)
    show dd_Rn (e + 16) m_X10_law (73, [.ref 0, .int x1], [], sM Ln (dd_u I2 31 (upd (I2 31) 2 0)) L2 c s) _
    exact dd_Rn.retK 1 (pc := 74) (ls := [.ref 0, .int x1]) (st := [.int x1]) (M := sM Ln (dd_u I2 31 (upd (I2 31) 2 0)) L2 c s) (o := (none, .int x1, sM Ln (dd_u I2 31 (upd (I2 31) 2 0)) L2 c s)) rfl rfl h (by omega)

theorem w_X10_fault_0 {Ln d c s : Nat} {I : Nat → Nat → Int32} {L : Nat → Nat → Int64} {Q : dd_O → Prop} (hd : 28 ≤ d) (h : Q (none, .int (I 0 10), sM Ln I L c s)) : dd_Ev d m_X10_fault [.ref 0] (sM Ln I L c s) Q := by
  obtain ⟨e, rfl⟩ : ∃ e, d = e + 16 := ⟨d - 16, by omega⟩
  show dd_Rn (e + 16) m_X10_fault (0, [.ref 0], [], sM Ln I L c s) Q
  exact dd_Rn.retK 2 (pc := 4) (ls := [.ref 0]) (st := [.int (I 0 10)]) (M := sM Ln I L c s) (o := (none, .int (I 0 10), sM Ln I L c s)) rfl rfl h (by omega)

theorem w_X10_cell_0 {Ln d c s : Nat} {I : Nat → Nat → Int32} {L : Nat → Nat → Int64} {Q : dd_O → Prop} {a1 a2 : Int32} (hd : 28 ≤ d) (h : ((a1 < 0 → Q (some 2, .null, sM Ln I L (c + 1) (s + 6))) ∧ (¬ (a1 < 0) → ((a1 < 64 → ((Int32.toInt a2 < 0 ∨ 2 < Int32.toInt a2 → Q (some 3, .null, sM Ln I L (c + 1) (s + 6))) ∧ (a2 = 0 → dd_Ev (d - 1) m_X8_isOpen [.ref 1, .int a1] (sM Ln I L c s) (dd_RI Ln c s (fun x1 I1 L1 => ((x1 = 0 → Q (none, .int 1, sM Ln I1 L1 c s)) ∧ (¬ (x1 = 0) → Q (none, .int 0, sM Ln I1 L1 c s)))))) ∧ (a2 = 1 → ((0 ≤ a1 ∧ tn a1 < 64) ∧ Q (none, .int (I 2 (tn a1)), sM Ln I L c s))) ∧ (a2 = 2 → dd_Ev (d - 1) m_X8_nearOf [.ref 1, .int a1] (sM Ln I L c s) (dd_RI Ln c s (fun x2 I2 L2 => Q (none, .int x2, sM Ln I2 L2 c s)))))) ∧ (¬ (a1 < 64) → Q (some 2, .null, sM Ln I L (c + 1) (s + 6))))))) : dd_Ev d m_X10_cell [.ref 0, .int a1, .int a2] (sM Ln I L c s) Q := by
  obtain ⟨e, rfl⟩ : ∃ e, d = e + 16 := ⟨d - 16, by omega⟩
  show dd_Rn (e + 16) m_X10_cell (0, [.ref 0, .int a1, .int a2], [], sM Ln I L c s) Q
  refine dd_Rn.sub 2 (pc := 2) (ls := [.ref 0, .int a1, .int a2]) (st := [.int a1, .ref 0]) (M := sM Ln I L c s) (x := m_X10_requireCell) (as := [.ref 0, .int a1]) (rest := []) rfl rfl rfl rfl ?_
  show dd_Rn (e + 15) m_X10_requireCell (0, [.ref 0, .int a1], [], sM Ln I L c s) _
  refine dd_Rn.ite 1 (c := a1 < 0) (A := (10, [.ref 0, .int a1], [], sM Ln I L c s)) (B := (4, [.ref 0, .int a1], [], sM Ln I L c s)) rfl (fun hc => ?_) (fun hc => ?_) (by omega)
  · have h := h.1 hc
    exact dd_Rn.throw 0 (pc := 10) (ls := [.ref 0, .int a1]) (st := []) (M := sM Ln I L c s) rfl rfl rfl (by omega) rfl (dd_Af.thr rfl rfl rfl h)
  · have h := h.2 hc
    refine dd_Rn.ite 2 (c := a1 < 64) (A := (20, [.ref 0, .int a1], [], sM Ln I L c s)) (B := (10, [.ref 0, .int a1], [], sM Ln I L c s)) rfl (fun hc => ?_) (fun hc => ?_) (by omega)
    · have h := h.1 hc
      refine dd_Rn.retK 0 (pc := 20) (ls := [.ref 0, .int a1]) (st := []) (M := sM Ln I L c s) (o := (none, .null, sM Ln I L c s)) rfl rfl (dd_Af.ret rfl ?_) (by omega)
      show dd_Rn (e + 16) m_X10_cell (5, [.ref 0, .int a1, .int a2], [], sM Ln I L c s) _
      refine dd_Rn.go 1 (cf' := (6, [.ref 0, .int a1, .int a2], [.int a2], sM Ln I L c s)) rfl ?_ (by omega)
      by_cases hs : Int32.toInt a2 < 0 ∨ 2 < Int32.toInt a2
      · have h := h.1 hs
        refine dd_Rn.pos 0 (c := Int32.toInt a2 < 0 ∨ 2 < Int32.toInt a2) (A := (68, [.ref 0, .int a1, .int a2], [], sM Ln I L c s)) rfl hs ?_ (by omega)
        exact dd_Rn.throw 0 (pc := 68) (ls := [.ref 0, .int a1, .int a2]) (st := []) (M := sM Ln I L c s) rfl rfl rfl (by omega) rfl h
      have h := h.2
      have hs : Int32.toInt a2 = 0 ∨ Int32.toInt a2 = 1 ∨ Int32.toInt a2 = 2 := by omega
      rcases hs with hs | hs
      · have hv : a2 = 0 := Int32.toInt_inj.mp (by rw [hs]; rfl)
        have h := h.1 hv
        refine dd_Rn.lit hv ?_
        refine dd_Rn.go 1 (cf' := (32, [.ref 0, .int a1, .int a2], [], sM Ln I L c s)) rfl ?_ (by omega)
        refine dd_Rn.cI 3 (pc := 37) (ls := [.ref 0, .int a1, .int a2]) (st := [.int a1, .ref 1]) (x := m_X8_isOpen) (as := [.ref 1, .int a1]) (rest := []) rfl rfl rfl rfl h ?_
        intro x1 I1 L1 h
        show dd_Rn (e + 16) m_X10_cell (40, [.ref 0, .int a1, .int a2], [.int x1], sM Ln I1 L1 c s) _
        refine dd_Rn.ite 0 (c := x1 = 0) (A := (47, [.ref 0, .int a1, .int a2], [], sM Ln I1 L1 c s)) (B := (43, [.ref 0, .int a1, .int a2], [], sM Ln I1 L1 c s)) rfl (fun hc => ?_) (fun hc => ?_) (by omega)
        · have h := h.1 hc
          exact dd_Rn.retK 1 (pc := 48) (ls := [.ref 0, .int a1, .int a2]) (st := [.int 1]) (M := sM Ln I1 L1 c s) (o := (none, .int 1, sM Ln I1 L1 c s)) rfl rfl h (by omega)
        · have h := h.2 hc
          exact dd_Rn.retK 2 (pc := 48) (ls := [.ref 0, .int a1, .int a2]) (st := [.int 0]) (M := sM Ln I1 L1 c s) (o := (none, .int 0, sM Ln I1 L1 c s)) rfl rfl h (by omega)
      have h := h.2
      rcases hs with hs | hs
      · have hv : a2 = 1 := Int32.toInt_inj.mp (by rw [hs]; rfl)
        have h := h.1 hv
        refine dd_Rn.lit hv ?_
        refine dd_Rn.go 1 (cf' := (49, [.ref 0, .int a1, .int a2], [], sM Ln I L c s)) rfl ?_ (by omega)
        obtain ⟨hc, h⟩ := h
        refine dd_Rn.chk 4 (c := 0 ≤ a1 ∧ tn a1 < 64) (A := (58, [.ref 0, .int a1, .int a2], [.int (I 2 (tn a1))], sM Ln I L c s)) rfl hc ?_ (by omega)
        exact dd_Rn.retK 0 (pc := 58) (ls := [.ref 0, .int a1, .int a2]) (st := [.int (I 2 (tn a1))]) (M := sM Ln I L c s) (o := (none, .int (I 2 (tn a1)), sM Ln I L c s)) rfl rfl h (by omega)
      have h := h.2
      · have hv : a2 = 2 := Int32.toInt_inj.mp (by rw [hs]; rfl)
        have h := h hv
        refine dd_Rn.lit hv ?_
        refine dd_Rn.go 1 (cf' := (59, [.ref 0, .int a1, .int a2], [], sM Ln I L c s)) rfl ?_ (by omega)
        refine dd_Rn.cI 3 (pc := 64) (ls := [.ref 0, .int a1, .int a2]) (st := [.int a1, .ref 1]) (x := m_X8_nearOf) (as := [.ref 1, .int a1]) (rest := []) rfl rfl rfl rfl h ?_
        intro x2 I2 L2 h
        show dd_Rn (e + 16) m_X10_cell (67, [.ref 0, .int a1, .int a2], [.int x2], sM Ln I2 L2 c s) _
        exact dd_Rn.retK 0 (pc := 67) (ls := [.ref 0, .int a1, .int a2]) (st := [.int x2]) (M := sM Ln I2 L2 c s) (o := (none, .int x2, sM Ln I2 L2 c s)) rfl rfl h (by omega)
    · have h := h.2 hc
      exact dd_Rn.throw 0 (pc := 10) (ls := [.ref 0, .int a1]) (st := []) (M := sM Ln I L c s) rfl rfl rfl (by omega) rfl (dd_Af.thr rfl rfl rfl h)

theorem w_X10_note_0 {Ln d c s : Nat} {I : Nat → Nat → Int32} {L : Nat → Nat → Int64} {Q : dd_O → Prop} {a1 a2 : Int32} (hd : 28 ≤ d) (h : ((a1 < 0 → Q (some 2, .null, sM Ln I L (c + 1) (s + 6))) ∧ (¬ (a1 < 0) → ((a1 < I 1 9 → ((a2 < 0 → Q (some 2, .null, sM Ln I L (c + 1) (s + 6))) ∧ (¬ (a2 < 0) → ((a2 < 8 → ((0 ≤ (a1 * 8) + a2 ∧ tn ((a1 * 8) + a2) < 48) ∧ Q (none, .int (I 3 (tn ((a1 * 8) + a2))), sM Ln I L c s))) ∧ (¬ (a2 < 8) → Q (some 2, .null, sM Ln I L (c + 1) (s + 6))))))) ∧ (¬ (a1 < I 1 9) → Q (some 2, .null, sM Ln I L (c + 1) (s + 6))))))) : dd_Ev d m_X10_note [.ref 0, .int a1, .int a2] (sM Ln I L c s) Q := by
  obtain ⟨e, rfl⟩ : ∃ e, d = e + 16 := ⟨d - 16, by omega⟩
  show dd_Rn (e + 16) m_X10_note (0, [.ref 0, .int a1, .int a2], [], sM Ln I L c s) Q
  refine dd_Rn.sub 2 (pc := 2) (ls := [.ref 0, .int a1, .int a2]) (st := [.int a1, .ref 0]) (M := sM Ln I L c s) (x := m_X10_requirePart) (as := [.ref 0, .int a1]) (rest := []) rfl rfl rfl rfl ?_
  show dd_Rn (e + 15) m_X10_requirePart (0, [.ref 0, .int a1], [], sM Ln I L c s) _
  refine dd_Rn.ite 1 (c := a1 < 0) (A := (15, [.ref 0, .int a1], [], sM Ln I L c s)) (B := (4, [.ref 0, .int a1], [], sM Ln I L c s)) rfl (fun hc => ?_) (fun hc => ?_) (by omega)
  · have h := h.1 hc
    exact dd_Rn.throw 0 (pc := 15) (ls := [.ref 0, .int a1]) (st := []) (M := sM Ln I L c s) rfl rfl rfl (by omega) rfl (dd_Af.thr rfl rfl rfl h)
  · have h := h.2 hc
    refine dd_Rn.ite 4 (c := a1 < I 1 9) (A := (25, [.ref 0, .int a1], [], sM Ln I L c s)) (B := (15, [.ref 0, .int a1], [], sM Ln I L c s)) rfl (fun hc => ?_) (fun hc => ?_) (by omega)
    · have h := h.1 hc
      refine dd_Rn.retK 0 (pc := 25) (ls := [.ref 0, .int a1]) (st := []) (M := sM Ln I L c s) (o := (none, .null, sM Ln I L c s)) rfl rfl (dd_Af.ret rfl ?_) (by omega)
      show dd_Rn (e + 16) m_X10_note (5, [.ref 0, .int a1, .int a2], [], sM Ln I L c s) _
      refine dd_Rn.sub 2 (pc := 7) (ls := [.ref 0, .int a1, .int a2]) (st := [.int a2, .ref 0]) (M := sM Ln I L c s) (x := m_X10_requireBeat) (as := [.ref 0, .int a2]) (rest := []) rfl rfl rfl rfl ?_
      show dd_Rn (e + 15) m_X10_requireBeat (0, [.ref 0, .int a2], [], sM Ln I L c s) _
      refine dd_Rn.ite 1 (c := a2 < 0) (A := (10, [.ref 0, .int a2], [], sM Ln I L c s)) (B := (4, [.ref 0, .int a2], [], sM Ln I L c s)) rfl (fun hc => ?_) (fun hc => ?_) (by omega)
      · have h := h.1 hc
        exact dd_Rn.throw 0 (pc := 10) (ls := [.ref 0, .int a2]) (st := []) (M := sM Ln I L c s) rfl rfl rfl (by omega) rfl (dd_Af.thr rfl rfl rfl h)
      · have h := h.2 hc
        refine dd_Rn.ite 2 (c := a2 < 8) (A := (20, [.ref 0, .int a2], [], sM Ln I L c s)) (B := (10, [.ref 0, .int a2], [], sM Ln I L c s)) rfl (fun hc => ?_) (fun hc => ?_) (by omega)
        · have h := h.1 hc
          refine dd_Rn.retK 0 (pc := 20) (ls := [.ref 0, .int a2]) (st := []) (M := sM Ln I L c s) (o := (none, .null, sM Ln I L c s)) rfl rfl (dd_Af.ret rfl ?_) (by omega)
          show dd_Rn (e + 16) m_X10_note (10, [.ref 0, .int a1, .int a2], [], sM Ln I L c s) _
          obtain ⟨hc, h⟩ := h
          refine dd_Rn.go 8 (cf' := (23, [.ref 0, .int a1, .int a2], [.int ((a1 * 8) + a2), .ref 3], sM Ln I L c s)) rfl ?_ (by omega)
          refine dd_Rn.ci (fun j0 => (23, [.ref 0, .int a1, .int a2], [.int j0, .ref 3], sM Ln I L c s)) (fun j0 => (24, [.ref 0, .int a1, .int a2], [.int (I 3 (tn j0))], sM Ln I L c s)) (fun j0 => 0 ≤ j0 ∧ tn j0 < 48) ((a1 * 8) + a2) (fun j0 hc h => dd_Rn.chk 0 (c := 0 ≤ j0 ∧ tn j0 < 48) (A := (24, [.ref 0, .int a1, .int a2], [.int (I 3 (tn j0))], sM Ln I L c s)) rfl hc h (by omega)) hc ?_
          refine dd_Rn.se (cf := (24, [.ref 0, .int a1, .int a2], [.int (I 3 (tn ((a1 * 8) + a2)))], sM Ln I L c s)) ?_
          exact dd_Rn.retK 0 (pc := 24) (ls := [.ref 0, .int a1, .int a2]) (st := [.int (I 3 (tn ((a1 * 8) + a2)))]) (M := sM Ln I L c s) (o := (none, .int (I 3 (tn ((a1 * 8) + a2))), sM Ln I L c s)) rfl rfl h (by omega)
        · have h := h.2 hc
          exact dd_Rn.throw 0 (pc := 10) (ls := [.ref 0, .int a2]) (st := []) (M := sM Ln I L c s) rfl rfl rfl (by omega) rfl (dd_Af.thr rfl rfl rfl h)
    · have h := h.2 hc
      exact dd_Rn.throw 0 (pc := 15) (ls := [.ref 0, .int a1]) (st := []) (M := sM Ln I L c s) rfl rfl rfl (by omega) rfl (dd_Af.thr rfl rfl rfl h)

theorem w_X10_boy_0 {Ln d c s : Nat} {I : Nat → Nat → Int32} {L : Nat → Nat → Int64} {Q : dd_O → Prop} {a1 a2 : Int32} (hd : 28 ≤ d) (h : ((a1 < 0 → Q (some 2, .null, sM Ln I L (c + 1) (s + 6))) ∧ (¬ (a1 < 0) → ((a1 < I 1 10 → ((Int32.toInt a2 < 0 ∨ 8 < Int32.toInt a2 → Q (some 3, .null, sM Ln I L (c + 1) (s + 6))) ∧ (a2 = 0 → ((0 ≤ a1 ∧ tn a1 < 6) ∧ Q (none, .int (I 4 (tn a1)), sM Ln I L c s))) ∧ (a2 = 1 → ((0 ≤ a1 ∧ tn a1 < 6) ∧ Q (none, .int (I 5 (tn a1)), sM Ln I L c s))) ∧ (a2 = 2 → ((0 ≤ a1 ∧ tn a1 < 6) ∧ Q (none, .int (I 6 (tn a1)), sM Ln I L c s))) ∧ (a2 = 3 → dd_Ev (d - 1) m_X8_isIn [.ref 1, .int a1] (sM Ln I L c s) (dd_RI Ln c s (fun x1 I1 L1 => ((x1 = 0 → Q (none, .int 0, sM Ln I1 L1 c s)) ∧ (¬ (x1 = 0) → Q (none, .int 1, sM Ln I1 L1 c s)))))) ∧ (a2 = 4 → ((0 ≤ a1 ∧ tn a1 < 6) ∧ Q (none, .int (I 7 (tn a1)), sM Ln I L c s))) ∧ (a2 = 5 → ((0 ≤ a1 ∧ tn a1 < 6) ∧ dd_Ev (d - 1) m_X8_nearOf [.ref 1, .int (I 4 (tn a1))] (sM Ln I L c s) (dd_RI Ln c s (fun x2 I2 L2 => Q (none, .int x2, sM Ln I2 L2 c s))))) ∧ (a2 = 6 → dd_Ev (d - 1) m_X10_hearsNow [.ref 0, .int a1] (sM Ln I L c s) (dd_RI Ln c s (fun x3 I3 L3 => ((x3 = 0 → Q (none, .int 0, sM Ln I3 L3 c s)) ∧ (¬ (x3 = 0) → Q (none, .int 1, sM Ln I3 L3 c s)))))) ∧ (a2 = 7 → dd_Ev (d - 1) m_X10_cellAhead [.ref 0, .int a1, .int 1] (sM Ln I L c s) (dd_RI Ln c s (fun x4 I4 L4 => Q (none, .int x4, sM Ln I4 L4 c s)))) ∧ (a2 = 8 → dd_Ev (d - 1) m_X10_shareOf [.ref 0, .int a1] (sM Ln I L c s) (dd_RI Ln c s (fun x5 I5 L5 => Q (none, .int x5, sM Ln I5 L5 c s)))))) ∧ (¬ (a1 < I 1 10) → Q (some 2, .null, sM Ln I L (c + 1) (s + 6))))))) : dd_Ev d m_X10_boy [.ref 0, .int a1, .int a2] (sM Ln I L c s) Q := by
  obtain ⟨e, rfl⟩ : ∃ e, d = e + 16 := ⟨d - 16, by omega⟩
  show dd_Rn (e + 16) m_X10_boy (0, [.ref 0, .int a1, .int a2], [], sM Ln I L c s) Q
  refine dd_Rn.sub 2 (pc := 2) (ls := [.ref 0, .int a1, .int a2]) (st := [.int a1, .ref 0]) (M := sM Ln I L c s) (x := m_X10_requireBoy) (as := [.ref 0, .int a1]) (rest := []) rfl rfl rfl rfl ?_
  show dd_Rn (e + 15) m_X10_requireBoy (0, [.ref 0, .int a1], [], sM Ln I L c s) _
  refine dd_Rn.ite 1 (c := a1 < 0) (A := (15, [.ref 0, .int a1], [], sM Ln I L c s)) (B := (4, [.ref 0, .int a1], [], sM Ln I L c s)) rfl (fun hc => ?_) (fun hc => ?_) (by omega)
  · have h := h.1 hc
    exact dd_Rn.throw 0 (pc := 15) (ls := [.ref 0, .int a1]) (st := []) (M := sM Ln I L c s) rfl rfl rfl (by omega) rfl (dd_Af.thr rfl rfl rfl h)
  · have h := h.2 hc
    refine dd_Rn.ite 4 (c := a1 < I 1 10) (A := (25, [.ref 0, .int a1], [], sM Ln I L c s)) (B := (15, [.ref 0, .int a1], [], sM Ln I L c s)) rfl (fun hc => ?_) (fun hc => ?_) (by omega)
    · have h := h.1 hc
      refine dd_Rn.retK 0 (pc := 25) (ls := [.ref 0, .int a1]) (st := []) (M := sM Ln I L c s) (o := (none, .null, sM Ln I L c s)) rfl rfl (dd_Af.ret rfl ?_) (by omega)
      show dd_Rn (e + 16) m_X10_boy (5, [.ref 0, .int a1, .int a2], [], sM Ln I L c s) _
      refine dd_Rn.go 1 (cf' := (6, [.ref 0, .int a1, .int a2], [.int a2], sM Ln I L c s)) rfl ?_ (by omega)
      by_cases hs : Int32.toInt a2 < 0 ∨ 8 < Int32.toInt a2
      · have h := h.1 hs
        refine dd_Rn.pos 0 (c := Int32.toInt a2 < 0 ∨ 8 < Int32.toInt a2) (A := (157, [.ref 0, .int a1, .int a2], [], sM Ln I L c s)) rfl hs ?_ (by omega)
        exact dd_Rn.throw 0 (pc := 157) (ls := [.ref 0, .int a1, .int a2]) (st := []) (M := sM Ln I L c s) rfl rfl rfl (by omega) rfl h
      have h := h.2
      have hs : Int32.toInt a2 = 0 ∨ Int32.toInt a2 = 1 ∨ Int32.toInt a2 = 2 ∨ Int32.toInt a2 = 3 ∨ Int32.toInt a2 = 4 ∨ Int32.toInt a2 = 5 ∨ Int32.toInt a2 = 6 ∨ Int32.toInt a2 = 7 ∨ Int32.toInt a2 = 8 := by omega
      rcases hs with hs | hs
      · have hv : a2 = 0 := Int32.toInt_inj.mp (by rw [hs]; rfl)
        have h := h.1 hv
        refine dd_Rn.lit hv ?_
        refine dd_Rn.go 1 (cf' := (56, [.ref 0, .int a1, .int a2], [], sM Ln I L c s)) rfl ?_ (by omega)
        obtain ⟨hc, h⟩ := h
        refine dd_Rn.chk 4 (c := 0 ≤ a1 ∧ tn a1 < 6) (A := (65, [.ref 0, .int a1, .int a2], [.int (I 4 (tn a1))], sM Ln I L c s)) rfl hc ?_ (by omega)
        exact dd_Rn.retK 0 (pc := 65) (ls := [.ref 0, .int a1, .int a2]) (st := [.int (I 4 (tn a1))]) (M := sM Ln I L c s) (o := (none, .int (I 4 (tn a1)), sM Ln I L c s)) rfl rfl h (by omega)
      have h := h.2
      rcases hs with hs | hs
      · have hv : a2 = 1 := Int32.toInt_inj.mp (by rw [hs]; rfl)
        have h := h.1 hv
        refine dd_Rn.lit hv ?_
        refine dd_Rn.go 1 (cf' := (66, [.ref 0, .int a1, .int a2], [], sM Ln I L c s)) rfl ?_ (by omega)
        obtain ⟨hc, h⟩ := h
        refine dd_Rn.chk 4 (c := 0 ≤ a1 ∧ tn a1 < 6) (A := (75, [.ref 0, .int a1, .int a2], [.int (I 5 (tn a1))], sM Ln I L c s)) rfl hc ?_ (by omega)
        exact dd_Rn.retK 0 (pc := 75) (ls := [.ref 0, .int a1, .int a2]) (st := [.int (I 5 (tn a1))]) (M := sM Ln I L c s) (o := (none, .int (I 5 (tn a1)), sM Ln I L c s)) rfl rfl h (by omega)
      have h := h.2
      rcases hs with hs | hs
      · have hv : a2 = 2 := Int32.toInt_inj.mp (by rw [hs]; rfl)
        have h := h.1 hv
        refine dd_Rn.lit hv ?_
        refine dd_Rn.go 1 (cf' := (76, [.ref 0, .int a1, .int a2], [], sM Ln I L c s)) rfl ?_ (by omega)
        obtain ⟨hc, h⟩ := h
        refine dd_Rn.chk 4 (c := 0 ≤ a1 ∧ tn a1 < 6) (A := (85, [.ref 0, .int a1, .int a2], [.int (I 6 (tn a1))], sM Ln I L c s)) rfl hc ?_ (by omega)
        exact dd_Rn.retK 0 (pc := 85) (ls := [.ref 0, .int a1, .int a2]) (st := [.int (I 6 (tn a1))]) (M := sM Ln I L c s) (o := (none, .int (I 6 (tn a1)), sM Ln I L c s)) rfl rfl h (by omega)
      have h := h.2
      rcases hs with hs | hs
      · have hv : a2 = 3 := Int32.toInt_inj.mp (by rw [hs]; rfl)
        have h := h.1 hv
        refine dd_Rn.lit hv ?_
        refine dd_Rn.go 1 (cf' := (86, [.ref 0, .int a1, .int a2], [], sM Ln I L c s)) rfl ?_ (by omega)
        refine dd_Rn.cI 3 (pc := 91) (ls := [.ref 0, .int a1, .int a2]) (st := [.int a1, .ref 1]) (x := m_X8_isIn) (as := [.ref 1, .int a1]) (rest := []) rfl rfl rfl rfl h ?_
        intro x1 I1 L1 h
        show dd_Rn (e + 16) m_X10_boy (94, [.ref 0, .int a1, .int a2], [.int x1], sM Ln I1 L1 c s) _
        refine dd_Rn.ite 0 (c := x1 = 0) (A := (101, [.ref 0, .int a1, .int a2], [], sM Ln I1 L1 c s)) (B := (97, [.ref 0, .int a1, .int a2], [], sM Ln I1 L1 c s)) rfl (fun hc => ?_) (fun hc => ?_) (by omega)
        · have h := h.1 hc
          exact dd_Rn.retK 1 (pc := 102) (ls := [.ref 0, .int a1, .int a2]) (st := [.int 0]) (M := sM Ln I1 L1 c s) (o := (none, .int 0, sM Ln I1 L1 c s)) rfl rfl h (by omega)
        · have h := h.2 hc
          exact dd_Rn.retK 2 (pc := 102) (ls := [.ref 0, .int a1, .int a2]) (st := [.int 1]) (M := sM Ln I1 L1 c s) (o := (none, .int 1, sM Ln I1 L1 c s)) rfl rfl h (by omega)
      have h := h.2
      rcases hs with hs | hs
      · have hv : a2 = 4 := Int32.toInt_inj.mp (by rw [hs]; rfl)
        have h := h.1 hv
        refine dd_Rn.lit hv ?_
        refine dd_Rn.go 1 (cf' := (103, [.ref 0, .int a1, .int a2], [], sM Ln I L c s)) rfl ?_ (by omega)
        obtain ⟨hc, h⟩ := h
        refine dd_Rn.chk 4 (c := 0 ≤ a1 ∧ tn a1 < 6) (A := (112, [.ref 0, .int a1, .int a2], [.int (I 7 (tn a1))], sM Ln I L c s)) rfl hc ?_ (by omega)
        exact dd_Rn.retK 0 (pc := 112) (ls := [.ref 0, .int a1, .int a2]) (st := [.int (I 7 (tn a1))]) (M := sM Ln I L c s) (o := (none, .int (I 7 (tn a1)), sM Ln I L c s)) rfl rfl h (by omega)
      have h := h.2
      rcases hs with hs | hs
      · have hv : a2 = 5 := Int32.toInt_inj.mp (by rw [hs]; rfl)
        have h := h.1 hv
        refine dd_Rn.lit hv ?_
        refine dd_Rn.go 1 (cf' := (113, [.ref 0, .int a1, .int a2], [], sM Ln I L c s)) rfl ?_ (by omega)
        obtain ⟨hc, h⟩ := h
        refine dd_Rn.chk 6 (c := 0 ≤ a1 ∧ tn a1 < 6) (A := (126, [.ref 0, .int a1, .int a2], [.int (I 4 (tn a1)), .ref 1], sM Ln I L c s)) rfl hc ?_ (by omega)
        refine dd_Rn.cI 0 (pc := 126) (ls := [.ref 0, .int a1, .int a2]) (st := [.int (I 4 (tn a1)), .ref 1]) (x := m_X8_nearOf) (as := [.ref 1, .int (I 4 (tn a1))]) (rest := []) rfl rfl rfl rfl h ?_
        intro x2 I2 L2 h
        show dd_Rn (e + 16) m_X10_boy (129, [.ref 0, .int a1, .int a2], [.int x2], sM Ln I2 L2 c s) _
        exact dd_Rn.retK 0 (pc := 129) (ls := [.ref 0, .int a1, .int a2]) (st := [.int x2]) (M := sM Ln I2 L2 c s) (o := (none, .int x2, sM Ln I2 L2 c s)) rfl rfl h (by omega)
      have h := h.2
      rcases hs with hs | hs
      · have hv : a2 = 6 := Int32.toInt_inj.mp (by rw [hs]; rfl)
        have h := h.1 hv
        refine dd_Rn.lit hv ?_
        refine dd_Rn.go 1 (cf' := (130, [.ref 0, .int a1, .int a2], [], sM Ln I L c s)) rfl ?_ (by omega)
        refine dd_Rn.cI 2 (pc := 132) (ls := [.ref 0, .int a1, .int a2]) (st := [.int a1, .ref 0]) (x := m_X10_hearsNow) (as := [.ref 0, .int a1]) (rest := []) rfl rfl rfl rfl h ?_
        intro x3 I3 L3 h
        show dd_Rn (e + 16) m_X10_boy (135, [.ref 0, .int a1, .int a2], [.int x3], sM Ln I3 L3 c s) _
        refine dd_Rn.ite 0 (c := x3 = 0) (A := (142, [.ref 0, .int a1, .int a2], [], sM Ln I3 L3 c s)) (B := (138, [.ref 0, .int a1, .int a2], [], sM Ln I3 L3 c s)) rfl (fun hc => ?_) (fun hc => ?_) (by omega)
        · have h := h.1 hc
          exact dd_Rn.retK 1 (pc := 143) (ls := [.ref 0, .int a1, .int a2]) (st := [.int 0]) (M := sM Ln I3 L3 c s) (o := (none, .int 0, sM Ln I3 L3 c s)) rfl rfl h (by omega)
        · have h := h.2 hc
          exact dd_Rn.retK 2 (pc := 143) (ls := [.ref 0, .int a1, .int a2]) (st := [.int 1]) (M := sM Ln I3 L3 c s) (o := (none, .int 1, sM Ln I3 L3 c s)) rfl rfl h (by omega)
      have h := h.2
      rcases hs with hs | hs
      · have hv : a2 = 7 := Int32.toInt_inj.mp (by rw [hs]; rfl)
        have h := h.1 hv
        refine dd_Rn.lit hv ?_
        refine dd_Rn.go 1 (cf' := (144, [.ref 0, .int a1, .int a2], [], sM Ln I L c s)) rfl ?_ (by omega)
        refine dd_Rn.cI 3 (pc := 147) (ls := [.ref 0, .int a1, .int a2]) (st := [.int 1, .int a1, .ref 0]) (x := m_X10_cellAhead) (as := [.ref 0, .int a1, .int 1]) (rest := []) rfl rfl rfl rfl h ?_
        intro x4 I4 L4 h
        show dd_Rn (e + 16) m_X10_boy (150, [.ref 0, .int a1, .int a2], [.int x4], sM Ln I4 L4 c s) _
        exact dd_Rn.retK 0 (pc := 150) (ls := [.ref 0, .int a1, .int a2]) (st := [.int x4]) (M := sM Ln I4 L4 c s) (o := (none, .int x4, sM Ln I4 L4 c s)) rfl rfl h (by omega)
      have h := h.2
      · have hv : a2 = 8 := Int32.toInt_inj.mp (by rw [hs]; rfl)
        have h := h hv
        refine dd_Rn.lit hv ?_
        refine dd_Rn.go 1 (cf' := (151, [.ref 0, .int a1, .int a2], [], sM Ln I L c s)) rfl ?_ (by omega)
        refine dd_Rn.cI 2 (pc := 153) (ls := [.ref 0, .int a1, .int a2]) (st := [.int a1, .ref 0]) (x := m_X10_shareOf) (as := [.ref 0, .int a1]) (rest := []) rfl rfl rfl rfl h ?_
        intro x5 I5 L5 h
        show dd_Rn (e + 16) m_X10_boy (156, [.ref 0, .int a1, .int a2], [.int x5], sM Ln I5 L5 c s) _
        exact dd_Rn.retK 0 (pc := 156) (ls := [.ref 0, .int a1, .int a2]) (st := [.int x5]) (M := sM Ln I5 L5 c s) (o := (none, .int x5, sM Ln I5 L5 c s)) rfl rfl h (by omega)
    · have h := h.2 hc
      exact dd_Rn.throw 0 (pc := 15) (ls := [.ref 0, .int a1]) (st := []) (M := sM Ln I L c s) rfl rfl rfl (by omega) rfl (dd_Af.thr rfl rfl rfl h)

theorem w_X10_hearsNow_0 {Ln d c s : Nat} {I : Nat → Nat → Int32} {L : Nat → Nat → Int64} {Q : dd_O → Prop} {a1 : Int32} (hd : 28 ≤ d) (h : dd_Ev (d - 1) m_X8_isIn [.ref 1, .int a1] (sM Ln I L c s) (dd_RI Ln c s (fun x1 I1 L1 => ((x1 = 0 → dd_Ev (d - 1) m_X6_follow [.ref 133, .int a1] (sM Ln I1 L1 c s) (dd_RV Ln c s (fun I2 L2 => dd_Ev (d - 1) m_X6_hearsNow [.ref 133] (sM Ln I2 L2 c s) (dd_RI Ln c s (fun x3 I3 L3 => ((x3 = 0 ∨ x3 = 1) ∧ Q (none, .int x3, sM Ln I3 L3 c s))))))) ∧ (¬ (x1 = 0) → Q (none, .int 0, sM Ln I1 L1 c s)))))) : dd_Ev d m_X10_hearsNow [.ref 0, .int a1] (sM Ln I L c s) Q := by
  obtain ⟨e, rfl⟩ : ∃ e, d = e + 16 := ⟨d - 16, by omega⟩
  show dd_Rn (e + 16) m_X10_hearsNow (0, [.ref 0, .int a1], [], sM Ln I L c s) Q
  refine dd_Rn.cI 3 (pc := 5) (ls := [.ref 0, .int a1]) (st := [.int a1, .ref 1]) (x := m_X8_isIn) (as := [.ref 1, .int a1]) (rest := []) rfl rfl rfl rfl h ?_
  intro x1 I1 L1 h
  show dd_Rn (e + 16) m_X10_hearsNow (8, [.ref 0, .int a1], [.int x1], sM Ln I1 L1 c s) _
  refine dd_Rn.ite 0 (c := x1 = 0) (A := (13, [.ref 0, .int a1], [], sM Ln I1 L1 c s)) (B := (11, [.ref 0, .int a1], [], sM Ln I1 L1 c s)) rfl (fun hc => ?_) (fun hc => ?_) (by omega)
  · have h := h.1 hc
    refine dd_Rn.cV 3 (pc := 18) (ls := [.ref 0, .int a1]) (st := [.int a1, .ref 133]) (x := m_X6_follow) (as := [.ref 133, .int a1]) (rest := []) rfl rfl rfl rfl h ?_
    intro I2 L2 h
    show dd_Rn (e + 16) m_X10_hearsNow (21, [.ref 0, .int a1], [], sM Ln I2 L2 c s) _
    refine dd_Rn.cI 2 (pc := 25) (ls := [.ref 0, .int a1]) (st := [.ref 133]) (x := m_X6_hearsNow) (as := [.ref 133]) (rest := []) rfl rfl rfl rfl h ?_
    intro x3 I3 L3 h
    show dd_Rn (e + 16) m_X10_hearsNow (28, [.ref 0, .int a1], [.int x3], sM Ln I3 L3 c s) _
    obtain ⟨hc, h⟩ := h
    exact dd_Rn.retB 0 (cf' := (28, [.ref 0, .int a1], [.int x3], sM Ln I3 L3 c s)) (v := x3) rfl rfl hc h (by omega)
  · have h := h.2 hc
    exact dd_Rn.retK 1 (pc := 12) (ls := [.ref 0, .int a1]) (st := [.int 0]) (M := sM Ln I1 L1 c s) (o := (none, .int 0, sM Ln I1 L1 c s)) rfl rfl h (by omega)

theorem w_X10_shareOf_0 {Ln d c s : Nat} {I : Nat → Nat → Int32} {L : Nat → Nat → Int64} {Q : dd_O → Prop} {a1 : Int32} (hd : 28 ≤ d) (h : dd_Ev (d - 1) m_X8_badOfAll [.ref 1] (sM Ln I L c s) (dd_RI Ln c s (fun x1 I1 L1 => ((x1 = 0 → Q (none, .int 0, sM Ln I1 L1 c s)) ∧ (¬ (x1 = 0) → ((0 ≤ a1 ∧ tn a1 < 6) ∧ (¬ (x1 = 0) ∧ Q (none, .int (((100 : Int32) * (I1 7 (tn a1))) / x1), sM Ln I1 L1 c s)))))))) : dd_Ev d m_X10_shareOf [.ref 0, .int a1] (sM Ln I L c s) Q := by
  obtain ⟨e, rfl⟩ : ∃ e, d = e + 16 := ⟨d - 16, by omega⟩
  show dd_Rn (e + 16) m_X10_shareOf (0, [.ref 0, .int a1, .null], [], sM Ln I L c s) Q
  refine dd_Rn.cI 2 (pc := 4) (ls := [.ref 0, .int a1, .null]) (st := [.ref 1]) (x := m_X8_badOfAll) (as := [.ref 1]) (rest := []) rfl rfl rfl rfl h ?_
  intro x1 I1 L1 h
  show dd_Rn (e + 16) m_X10_shareOf (7, [.ref 0, .int a1, .null], [.int x1], sM Ln I1 L1 c s) _
  refine dd_Rn.ite 2 (c := x1 = 0) (A := (12, [.ref 0, .int a1, .int x1], [], sM Ln I1 L1 c s)) (B := (16, [.ref 0, .int a1, .int x1], [], sM Ln I1 L1 c s)) rfl (fun hc => ?_) (fun hc => ?_) (by omega)
  · have h := h.1 hc
    exact dd_Rn.retK 2 (pc := 30) (ls := [.ref 0, .int a1, .int x1]) (st := [.int 0]) (M := sM Ln I1 L1 c s) (o := (none, .int 0, sM Ln I1 L1 c s)) rfl rfl h (by omega)
  · have h := h.2 hc
    obtain ⟨hc, h⟩ := h
    refine dd_Rn.chk 5 (c := 0 ≤ a1 ∧ tn a1 < 6) (A := (27, [.ref 0, .int a1, .int x1], [.int (I1 7 (tn a1)), .int 100], sM Ln I1 L1 c s)) rfl hc ?_ (by omega)
    obtain ⟨hc, h⟩ := h
    refine dd_Rn.chkN 2 (c := x1 = 0) (A := (30, [.ref 0, .int a1, .int x1], [.int (((100 : Int32) * (I1 7 (tn a1))) / x1)], sM Ln I1 L1 c s)) rfl hc ?_ (by omega)
    exact dd_Rn.retK 0 (pc := 30) (ls := [.ref 0, .int a1, .int x1]) (st := [.int (((100 : Int32) * (I1 7 (tn a1))) / x1)]) (M := sM Ln I1 L1 c s) (o := (none, .int (((100 : Int32) * (I1 7 (tn a1))) / x1), sM Ln I1 L1 c s)) rfl rfl h (by omega)

theorem w_X10_count_0 {Ln d c s : Nat} {I : Nat → Nat → Int32} {L : Nat → Nat → Int64} {Q : dd_O → Prop} {a1 : Int32} (hd : 28 ≤ d) (h : ((Int32.toInt a1 < 0 ∨ 12 < Int32.toInt a1 → Q (none, .int (-1), sM Ln I L c s)) ∧ (a1 = 0 → Q (none, .int (I 1 9), sM Ln I L c s)) ∧ (a1 = 1 → Q (none, .int (I 1 10), sM Ln I L c s)) ∧ (a1 = 2 → Q (none, .int (I 1 11), sM Ln I L c s)) ∧ (a1 = 3 → Q (none, .int (I 25 2), sM Ln I L c s)) ∧ (a1 = 4 → Q (none, .int (I 1 13), sM Ln I L c s)) ∧ (a1 = 5 → Q (none, .int (I 1 14), sM Ln I L c s)) ∧ (a1 = 6 → Q (none, .int (I 1 15), sM Ln I L c s)) ∧ (a1 = 7 → Q (none, .int (I 1 16), sM Ln I L c s)) ∧ (a1 = 8 → Q (none, .int (I 1 17), sM Ln I L c s)) ∧ (a1 = 9 → dd_Ev (d - 1) m_X8_fernsOfAll [.ref 1] (sM Ln I L c s) (dd_RI Ln c s (fun x1 I1 L1 => Q (none, .int x1, sM Ln I1 L1 c s)))) ∧ (a1 = 10 → Q (none, .int (I 1 12), sM Ln I L c s)) ∧ (a1 = 11 → Q (none, .int (I 1 8), sM Ln I L c s)) ∧ (a1 = 12 → Q (none, .int (I 31 2), sM Ln I L c s)))) : dd_Ev d m_X10_count [.ref 0, .int a1] (sM Ln I L c s) Q := by
  obtain ⟨e, rfl⟩ : ∃ e, d = e + 16 := ⟨d - 16, by omega⟩
  show dd_Rn (e + 16) m_X10_count (0, [.ref 0, .int a1], [], sM Ln I L c s) Q
  refine dd_Rn.go 1 (cf' := (1, [.ref 0, .int a1], [.int a1], sM Ln I L c s)) rfl ?_ (by omega)
  by_cases hs : Int32.toInt a1 < 0 ∨ 12 < Int32.toInt a1
  · have h := h.1 hs
    refine dd_Rn.pos 0 (c := Int32.toInt a1 < 0 ∨ 12 < Int32.toInt a1) (A := (172, [.ref 0, .int a1], [], sM Ln I L c s)) rfl hs ?_ (by omega)
    exact dd_Rn.retK 1 (pc := 173) (ls := [.ref 0, .int a1]) (st := [.int (-1)]) (M := sM Ln I L c s) (o := (none, .int (-1), sM Ln I L c s)) rfl rfl h (by omega)
  have h := h.2
  have hs : Int32.toInt a1 = 0 ∨ Int32.toInt a1 = 1 ∨ Int32.toInt a1 = 2 ∨ Int32.toInt a1 = 3 ∨ Int32.toInt a1 = 4 ∨ Int32.toInt a1 = 5 ∨ Int32.toInt a1 = 6 ∨ Int32.toInt a1 = 7 ∨ Int32.toInt a1 = 8 ∨ Int32.toInt a1 = 9 ∨ Int32.toInt a1 = 10 ∨ Int32.toInt a1 = 11 ∨ Int32.toInt a1 = 12 := by omega
  rcases hs with hs | hs
  · have hv : a1 = 0 := Int32.toInt_inj.mp (by rw [hs]; rfl)
    have h := h.1 hv
    refine dd_Rn.lit hv ?_
    refine dd_Rn.go 1 (cf' := (68, [.ref 0, .int a1], [], sM Ln I L c s)) rfl ?_ (by omega)
    exact dd_Rn.retK 3 (pc := 75) (ls := [.ref 0, .int a1]) (st := [.int (I 1 9)]) (M := sM Ln I L c s) (o := (none, .int (I 1 9), sM Ln I L c s)) rfl rfl h (by omega)
  have h := h.2
  rcases hs with hs | hs
  · have hv : a1 = 1 := Int32.toInt_inj.mp (by rw [hs]; rfl)
    have h := h.1 hv
    refine dd_Rn.lit hv ?_
    refine dd_Rn.go 1 (cf' := (76, [.ref 0, .int a1], [], sM Ln I L c s)) rfl ?_ (by omega)
    exact dd_Rn.retK 3 (pc := 83) (ls := [.ref 0, .int a1]) (st := [.int (I 1 10)]) (M := sM Ln I L c s) (o := (none, .int (I 1 10), sM Ln I L c s)) rfl rfl h (by omega)
  have h := h.2
  rcases hs with hs | hs
  · have hv : a1 = 2 := Int32.toInt_inj.mp (by rw [hs]; rfl)
    have h := h.1 hv
    refine dd_Rn.lit hv ?_
    refine dd_Rn.go 1 (cf' := (84, [.ref 0, .int a1], [], sM Ln I L c s)) rfl ?_ (by omega)
    exact dd_Rn.retK 3 (pc := 91) (ls := [.ref 0, .int a1]) (st := [.int (I 1 11)]) (M := sM Ln I L c s) (o := (none, .int (I 1 11), sM Ln I L c s)) rfl rfl h (by omega)
  have h := h.2
  rcases hs with hs | hs
  · have hv : a1 = 3 := Int32.toInt_inj.mp (by rw [hs]; rfl)
    have h := h.1 hv
    refine dd_Rn.lit hv ?_
    refine dd_Rn.go 1 (cf' := (92, [.ref 0, .int a1], [], sM Ln I L c s)) rfl ?_ (by omega)
    exact dd_Rn.retK 3 (pc := 99) (ls := [.ref 0, .int a1]) (st := [.int (I 25 2)]) (M := sM Ln I L c s) (o := (none, .int (I 25 2), sM Ln I L c s)) rfl rfl h (by omega)
  have h := h.2
  rcases hs with hs | hs
  · have hv : a1 = 4 := Int32.toInt_inj.mp (by rw [hs]; rfl)
    have h := h.1 hv
    refine dd_Rn.lit hv ?_
    refine dd_Rn.go 1 (cf' := (100, [.ref 0, .int a1], [], sM Ln I L c s)) rfl ?_ (by omega)
    exact dd_Rn.retK 3 (pc := 107) (ls := [.ref 0, .int a1]) (st := [.int (I 1 13)]) (M := sM Ln I L c s) (o := (none, .int (I 1 13), sM Ln I L c s)) rfl rfl h (by omega)
  have h := h.2
  rcases hs with hs | hs
  · have hv : a1 = 5 := Int32.toInt_inj.mp (by rw [hs]; rfl)
    have h := h.1 hv
    refine dd_Rn.lit hv ?_
    refine dd_Rn.go 1 (cf' := (108, [.ref 0, .int a1], [], sM Ln I L c s)) rfl ?_ (by omega)
    exact dd_Rn.retK 3 (pc := 115) (ls := [.ref 0, .int a1]) (st := [.int (I 1 14)]) (M := sM Ln I L c s) (o := (none, .int (I 1 14), sM Ln I L c s)) rfl rfl h (by omega)
  have h := h.2
  rcases hs with hs | hs
  · have hv : a1 = 6 := Int32.toInt_inj.mp (by rw [hs]; rfl)
    have h := h.1 hv
    refine dd_Rn.lit hv ?_
    refine dd_Rn.go 1 (cf' := (116, [.ref 0, .int a1], [], sM Ln I L c s)) rfl ?_ (by omega)
    exact dd_Rn.retK 3 (pc := 123) (ls := [.ref 0, .int a1]) (st := [.int (I 1 15)]) (M := sM Ln I L c s) (o := (none, .int (I 1 15), sM Ln I L c s)) rfl rfl h (by omega)
  have h := h.2
  rcases hs with hs | hs
  · have hv : a1 = 7 := Int32.toInt_inj.mp (by rw [hs]; rfl)
    have h := h.1 hv
    refine dd_Rn.lit hv ?_
    refine dd_Rn.go 1 (cf' := (124, [.ref 0, .int a1], [], sM Ln I L c s)) rfl ?_ (by omega)
    exact dd_Rn.retK 3 (pc := 131) (ls := [.ref 0, .int a1]) (st := [.int (I 1 16)]) (M := sM Ln I L c s) (o := (none, .int (I 1 16), sM Ln I L c s)) rfl rfl h (by omega)
  have h := h.2
  rcases hs with hs | hs
  · have hv : a1 = 8 := Int32.toInt_inj.mp (by rw [hs]; rfl)
    have h := h.1 hv
    refine dd_Rn.lit hv ?_
    refine dd_Rn.go 1 (cf' := (132, [.ref 0, .int a1], [], sM Ln I L c s)) rfl ?_ (by omega)
    exact dd_Rn.retK 3 (pc := 139) (ls := [.ref 0, .int a1]) (st := [.int (I 1 17)]) (M := sM Ln I L c s) (o := (none, .int (I 1 17), sM Ln I L c s)) rfl rfl h (by omega)
  have h := h.2
  rcases hs with hs | hs
  · have hv : a1 = 9 := Int32.toInt_inj.mp (by rw [hs]; rfl)
    have h := h.1 hv
    refine dd_Rn.lit hv ?_
    refine dd_Rn.go 1 (cf' := (140, [.ref 0, .int a1], [], sM Ln I L c s)) rfl ?_ (by omega)
    refine dd_Rn.cI 2 (pc := 144) (ls := [.ref 0, .int a1]) (st := [.ref 1]) (x := m_X8_fernsOfAll) (as := [.ref 1]) (rest := []) rfl rfl rfl rfl h ?_
    intro x1 I1 L1 h
    show dd_Rn (e + 16) m_X10_count (147, [.ref 0, .int a1], [.int x1], sM Ln I1 L1 c s) _
    exact dd_Rn.retK 0 (pc := 147) (ls := [.ref 0, .int a1]) (st := [.int x1]) (M := sM Ln I1 L1 c s) (o := (none, .int x1, sM Ln I1 L1 c s)) rfl rfl h (by omega)
  have h := h.2
  rcases hs with hs | hs
  · have hv : a1 = 10 := Int32.toInt_inj.mp (by rw [hs]; rfl)
    have h := h.1 hv
    refine dd_Rn.lit hv ?_
    refine dd_Rn.go 1 (cf' := (148, [.ref 0, .int a1], [], sM Ln I L c s)) rfl ?_ (by omega)
    exact dd_Rn.retK 3 (pc := 155) (ls := [.ref 0, .int a1]) (st := [.int (I 1 12)]) (M := sM Ln I L c s) (o := (none, .int (I 1 12), sM Ln I L c s)) rfl rfl h (by omega)
  have h := h.2
  rcases hs with hs | hs
  · have hv : a1 = 11 := Int32.toInt_inj.mp (by rw [hs]; rfl)
    have h := h.1 hv
    refine dd_Rn.lit hv ?_
    refine dd_Rn.go 1 (cf' := (156, [.ref 0, .int a1], [], sM Ln I L c s)) rfl ?_ (by omega)
    exact dd_Rn.retK 3 (pc := 163) (ls := [.ref 0, .int a1]) (st := [.int (I 1 8)]) (M := sM Ln I L c s) (o := (none, .int (I 1 8), sM Ln I L c s)) rfl rfl h (by omega)
  have h := h.2
  · have hv : a1 = 12 := Int32.toInt_inj.mp (by rw [hs]; rfl)
    have h := h hv
    refine dd_Rn.lit hv ?_
    refine dd_Rn.go 1 (cf' := (164, [.ref 0, .int a1], [], sM Ln I L c s)) rfl ?_ (by omega)
    exact dd_Rn.retK 3 (pc := 171) (ls := [.ref 0, .int a1]) (st := [.int (I 31 2)]) (M := sM Ln I L c s) (o := (none, .int (I 31 2), sM Ln I L c s)) rfl rfl h (by omega)

theorem w_X10_sing_0 {Ln d c s : Nat} {I : Nat → Nat → Int32} {L : Nat → Nat → Int64} {Q : dd_O → Prop} {a1 : Int32} (hd : 28 ≤ d) (h : ((a1 < 1 → Q (some 0, .null, sM Ln I L (c + 1) (s + 6))) ∧ (¬ (a1 < 1) → ((a1 ≤ 120 → dd_Ev (d - 1) m_X0_remember [.ref 31, .ref 1] (sM Ln I L c s) (dd_RV Ln c s (fun I1 L1 => dd_Ev (d - 1) m_X10_beatOn [.ref 0, .int a1] (sM Ln I1 L1 c s) (dd_RI Ln c s (fun x2 I2 L2 => Q (none, .int x2, sM Ln I2 L2 c s)))))) ∧ (¬ (a1 ≤ 120) → Q (some 0, .null, sM Ln I L (c + 1) (s + 6))))))) : dd_Ev d m_X10_sing [.ref 0, .int a1] (sM Ln I L c s) Q := by
  obtain ⟨e, rfl⟩ : ∃ e, d = e + 16 := ⟨d - 16, by omega⟩
  show dd_Rn (e + 16) m_X10_sing (0, [.ref 0, .int a1], [], sM Ln I L c s) Q
  refine dd_Rn.sub 4 (pc := 5) (ls := [.ref 0, .int a1]) (st := [.int 120, .int 1, .int a1, .ref 0]) (M := sM Ln I L c s) (x := m_X10_requireNumber) (as := [.ref 0, .int a1, .int 1, .int 120]) (rest := []) rfl rfl rfl rfl ?_
  show dd_Rn (e + 15) m_X10_requireNumber (0, [.ref 0, .int a1, .int 1, .int 120], [], sM Ln I L c s) _
  refine dd_Rn.ite 2 (c := a1 < 1) (A := (10, [.ref 0, .int a1, .int 1, .int 120], [], sM Ln I L c s)) (B := (5, [.ref 0, .int a1, .int 1, .int 120], [], sM Ln I L c s)) rfl (fun hc => ?_) (fun hc => ?_) (by omega)
  · have h := h.1 hc
    exact dd_Rn.throw 0 (pc := 10) (ls := [.ref 0, .int a1, .int 1, .int 120]) (st := []) (M := sM Ln I L c s) rfl rfl rfl (by omega) rfl (dd_Af.thr rfl rfl rfl h)
  · have h := h.2 hc
    refine dd_Rn.ite 2 (c := a1 ≤ 120) (A := (20, [.ref 0, .int a1, .int 1, .int 120], [], sM Ln I L c s)) (B := (10, [.ref 0, .int a1, .int 1, .int 120], [], sM Ln I L c s)) rfl (fun hc => ?_) (fun hc => ?_) (by omega)
    · have h := h.1 hc
      refine dd_Rn.retK 0 (pc := 20) (ls := [.ref 0, .int a1, .int 1, .int 120]) (st := []) (M := sM Ln I L c s) (o := (none, .null, sM Ln I L c s)) rfl rfl (dd_Af.ret rfl ?_) (by omega)
      show dd_Rn (e + 16) m_X10_sing (8, [.ref 0, .int a1], [], sM Ln I L c s) _
      refine dd_Rn.cV 4 (pc := 16) (ls := [.ref 0, .int a1]) (st := [.ref 1, .ref 31]) (x := m_X0_remember) (as := [.ref 31, .ref 1]) (rest := []) rfl rfl rfl rfl h ?_
      intro I1 L1 h
      show dd_Rn (e + 16) m_X10_sing (19, [.ref 0, .int a1], [], sM Ln I1 L1 c s) _
      refine dd_Rn.cI 2 (pc := 21) (ls := [.ref 0, .int a1]) (st := [.int a1, .ref 0]) (x := m_X10_beatOn) (as := [.ref 0, .int a1]) (rest := []) rfl rfl rfl rfl h ?_
      intro x2 I2 L2 h
      show dd_Rn (e + 16) m_X10_sing (24, [.ref 0, .int a1], [.int x2], sM Ln I2 L2 c s) _
      exact dd_Rn.retK 0 (pc := 24) (ls := [.ref 0, .int a1]) (st := [.int x2]) (M := sM Ln I2 L2 c s) (o := (none, .int x2, sM Ln I2 L2 c s)) rfl rfl h (by omega)
    · have h := h.2 hc
      exact dd_Rn.throw 0 (pc := 10) (ls := [.ref 0, .int a1, .int 1, .int 120]) (st := []) (M := sM Ln I L c s) rfl rfl rfl (by omega) rfl (dd_Af.thr rfl rfl rfl h)

theorem w_X10_beatOn_0 {Ln d c s : Nat} {I : Nat → Nat → Int32} {L : Nat → Nat → Int64} {Q : dd_O → Prop} {a1 : Int32} (hd : 28 ≤ d) (h : dd_Rn d m_X10_beatOn (4, [.ref 0, .int a1, .int 0, .int 0, .null], [], sM Ln I L c s) Q) : dd_Ev d m_X10_beatOn [.ref 0, .int a1] (sM Ln I L c s) Q := by
  obtain ⟨e, rfl⟩ : ∃ e, d = e + 16 := ⟨d - 16, by omega⟩
  show dd_Rn (e + 16) m_X10_beatOn (0, [.ref 0, .int a1, .null, .null, .null], [], sM Ln I L c s) Q
  exact dd_Rn.go 4 (cf' := (4, [.ref 0, .int a1, .int 0, .int 0, .null], [], sM Ln I L c s)) rfl h (by omega)

theorem w_X10_beatOn_4 {Ln d c s : Nat} {I : Nat → Nat → Int32} {L : Nat → Nat → Int64} {Q : dd_O → Prop} {a1 a2 a3 : Int32} {a4 : Value} (hd : 28 ≤ d) (h : ((a1 ≤ a3 → Q (none, .int a2, sM Ln I L c s)) ∧ (¬ (a1 ≤ a3) → dd_Rn d m_X10_beatOn (12, [.ref 0, .int a1, .int a2, .int a3, .int 0], [], sM Ln I L c s) Q))) : dd_Rn d m_X10_beatOn (4, [.ref 0, .int a1, .int a2, .int a3, a4], [], sM Ln I L c s) Q := by
  obtain ⟨e, rfl⟩ : ∃ e, d = e + 16 := ⟨d - 16, by omega⟩
  refine dd_Rn.ite 2 (c := a1 ≤ a3) (A := (70, [.ref 0, .int a1, .int a2, .int a3, a4], [], sM Ln I L c s)) (B := (9, [.ref 0, .int a1, .int a2, .int a3, a4], [], sM Ln I L c s)) rfl (fun hc => ?_) (fun hc => ?_) (by omega)
  · have h := h.1 hc
    exact dd_Rn.retK 1 (pc := 71) (ls := [.ref 0, .int a1, .int a2, .int a3, a4]) (st := [.int a2]) (M := sM Ln I L c s) (o := (none, .int a2, sM Ln I L c s)) rfl rfl h (by omega)
  · have h := h.2 hc
    exact dd_Rn.go 2 (cf' := (12, [.ref 0, .int a1, .int a2, .int a3, .int 0], [], sM Ln I L c s)) rfl h (by omega)

theorem w_X10_beatOn_12 {Ln d c s : Nat} {I : Nat → Nat → Int32} {L : Nat → Nat → Int64} {Q : dd_O → Prop} {a1 a2 a3 a4 : Int32} (hd : 28 ≤ d) (h : ((I 1 10 ≤ a4 → dd_Ev (d - 1) m_X8_endBeat [.ref 1] (sM Ln I L c s) (dd_RV Ln c s (fun I1 L1 => dd_Rn d m_X10_beatOn (4, [.ref 0, .int a1, .int a2, .int (a3 + 1), .int a4], [], sM Ln I1 L1 c s) Q))) ∧ (¬ (I 1 10 ≤ a4) → dd_Ev (d - 1) m_X8_isIn [.ref 1, .int a4] (sM Ln I L c s) (dd_RI Ln c s (fun x2 I2 L2 => ((x2 = 0 → dd_Ev (d - 1) m_X6_beatNow [.ref 133, .int a4] (sM Ln I2 L2 c s) (dd_RI Ln c s (fun x3 I3 L3 => ((x3 = 0 → dd_Rn d m_X10_beatOn (12, [.ref 0, .int a1, .int a2, .int a3, .int (a4 + 1)], [], sM Ln I3 L3 c s) Q) ∧ (¬ (x3 = 0) → dd_Rn d m_X10_beatOn (12, [.ref 0, .int a1, .int (a2 + 1), .int a3, .int (a4 + 1)], [], sM Ln I3 L3 c s) Q))))) ∧ (¬ (x2 = 0) → dd_Rn d m_X10_beatOn (12, [.ref 0, .int a1, .int a2, .int a3, .int (a4 + 1)], [], sM Ln I2 L2 c s) Q))))))) : dd_Rn d m_X10_beatOn (12, [.ref 0, .int a1, .int a2, .int a3, .int a4], [], sM Ln I L c s) Q := by
  obtain ⟨e, rfl⟩ : ∃ e, d = e + 16 := ⟨d - 16, by omega⟩
  refine dd_Rn.ite 4 (c := I 1 10 ≤ a4) (A := (57, [.ref 0, .int a1, .int a2, .int a3, .int a4], [], sM Ln I L c s)) (B := (24, [.ref 0, .int a1, .int a2, .int a3, .int a4], [], sM Ln I L c s)) rfl (fun hc => ?_) (fun hc => ?_) (by omega)
  · have h := h.1 hc
    refine dd_Rn.cV 2 (pc := 61) (ls := [.ref 0, .int a1, .int a2, .int a3, .int a4]) (st := [.ref 1]) (x := m_X8_endBeat) (as := [.ref 1]) (rest := []) rfl rfl rfl rfl h ?_
    intro I1 L1 h
    show dd_Rn (e + 16) m_X10_beatOn (64, [.ref 0, .int a1, .int a2, .int a3, .int a4], [], sM Ln I1 L1 c s) _
    exact dd_Rn.go 2 (cf' := (4, [.ref 0, .int a1, .int a2, .int (a3 + 1), .int a4], [], sM Ln I1 L1 c s)) rfl h (by omega)
  · have h := h.2 hc
    refine dd_Rn.cI 3 (pc := 30) (ls := [.ref 0, .int a1, .int a2, .int a3, .int a4]) (st := [.int a4, .ref 1]) (x := m_X8_isIn) (as := [.ref 1, .int a4]) (rest := []) rfl rfl rfl rfl h ?_
    intro x2 I2 L2 h
    show dd_Rn (e + 16) m_X10_beatOn (33, [.ref 0, .int a1, .int a2, .int a3, .int a4], [.int x2], sM Ln I2 L2 c s) _
    refine dd_Rn.ite 0 (c := x2 = 0) (A := (36, [.ref 0, .int a1, .int a2, .int a3, .int a4], [], sM Ln I2 L2 c s)) (B := (51, [.ref 0, .int a1, .int a2, .int a3, .int a4], [], sM Ln I2 L2 c s)) rfl (fun hc => ?_) (fun hc => ?_) (by omega)
    · have h := h.1 hc
      refine dd_Rn.cI 3 (pc := 42) (ls := [.ref 0, .int a1, .int a2, .int a3, .int a4]) (st := [.int a4, .ref 133]) (x := m_X6_beatNow) (as := [.ref 133, .int a4]) (rest := []) rfl rfl rfl rfl h ?_
      intro x3 I3 L3 h
      show dd_Rn (e + 16) m_X10_beatOn (45, [.ref 0, .int a1, .int a2, .int a3, .int a4], [.int x3], sM Ln I3 L3 c s) _
      refine dd_Rn.ite 0 (c := x3 = 0) (A := (51, [.ref 0, .int a1, .int a2, .int a3, .int a4], [], sM Ln I3 L3 c s)) (B := (48, [.ref 0, .int a1, .int a2, .int a3, .int a4], [], sM Ln I3 L3 c s)) rfl (fun hc => ?_) (fun hc => ?_) (by omega)
      · have h := h.1 hc
        exact dd_Rn.go 2 (cf' := (12, [.ref 0, .int a1, .int a2, .int a3, .int (a4 + 1)], [], sM Ln I3 L3 c s)) rfl h (by omega)
      · have h := h.2 hc
        exact dd_Rn.go 3 (cf' := (12, [.ref 0, .int a1, .int (a2 + 1), .int a3, .int (a4 + 1)], [], sM Ln I3 L3 c s)) rfl h (by omega)
    · have h := h.2 hc
      exact dd_Rn.go 2 (cf' := (12, [.ref 0, .int a1, .int a2, .int a3, .int (a4 + 1)], [], sM Ln I2 L2 c s)) rfl h (by omega)

theorem w_X10_fire_0 {Ln d c s : Nat} {I : Nat → Nat → Int32} {L : Nat → Nat → Int64} {Q : dd_O → Prop} {a1 : Int32} (hd : 28 ≤ d) (h : ((a1 < 0 → Q (some 2, .null, sM Ln I L (c + 1) (s + 6))) ∧ (¬ (a1 < 0) → ((a1 < 64 → dd_Ev (d - 1) m_X8_isOpen [.ref 1, .int a1] (sM Ln I L c s) (dd_RI Ln c s (fun x1 I1 L1 => ((x1 = 0 → Q (some 4, .null, sM Ln I1 L1 (c + 1) (s + 6))) ∧ (¬ (x1 = 0) → dd_Ev (d - 1) m_X0_remember [.ref 31, .ref 1] (sM Ln I1 L1 c s) (dd_RV Ln c s (fun I2 L2 => dd_Ev (d - 1) m_X8_putFire [.ref 1, .int a1] (sM Ln I2 L2 c s) (dd_RV Ln c s (fun I3 L3 => Q (none, .int (I2 1 13), sM Ln I3 L3 c s)))))))))) ∧ (¬ (a1 < 64) → Q (some 2, .null, sM Ln I L (c + 1) (s + 6))))))) : dd_Ev d m_X10_fire [.ref 0, .int a1] (sM Ln I L c s) Q := by
  obtain ⟨e, rfl⟩ : ∃ e, d = e + 16 := ⟨d - 16, by omega⟩
  show dd_Rn (e + 16) m_X10_fire (0, [.ref 0, .int a1, .null], [], sM Ln I L c s) Q
  refine dd_Rn.sub 2 (pc := 2) (ls := [.ref 0, .int a1, .null]) (st := [.int a1, .ref 0]) (M := sM Ln I L c s) (x := m_X10_requireCell) (as := [.ref 0, .int a1]) (rest := []) rfl rfl rfl rfl ?_
  show dd_Rn (e + 15) m_X10_requireCell (0, [.ref 0, .int a1], [], sM Ln I L c s) _
  refine dd_Rn.ite 1 (c := a1 < 0) (A := (10, [.ref 0, .int a1], [], sM Ln I L c s)) (B := (4, [.ref 0, .int a1], [], sM Ln I L c s)) rfl (fun hc => ?_) (fun hc => ?_) (by omega)
  · have h := h.1 hc
    exact dd_Rn.throw 0 (pc := 10) (ls := [.ref 0, .int a1]) (st := []) (M := sM Ln I L c s) rfl rfl rfl (by omega) rfl (dd_Af.thr rfl rfl rfl h)
  · have h := h.2 hc
    refine dd_Rn.ite 2 (c := a1 < 64) (A := (20, [.ref 0, .int a1], [], sM Ln I L c s)) (B := (10, [.ref 0, .int a1], [], sM Ln I L c s)) rfl (fun hc => ?_) (fun hc => ?_) (by omega)
    · have h := h.1 hc
      refine dd_Rn.retK 0 (pc := 20) (ls := [.ref 0, .int a1]) (st := []) (M := sM Ln I L c s) (o := (none, .null, sM Ln I L c s)) rfl rfl (dd_Af.ret rfl ?_) (by omega)
      show dd_Rn (e + 16) m_X10_fire (5, [.ref 0, .int a1, .null], [], sM Ln I L c s) _
      refine dd_Rn.cI 3 (pc := 10) (ls := [.ref 0, .int a1, .null]) (st := [.int a1, .ref 1]) (x := m_X8_isOpen) (as := [.ref 1, .int a1]) (rest := []) rfl rfl rfl rfl h ?_
      intro x1 I1 L1 h
      show dd_Rn (e + 16) m_X10_fire (13, [.ref 0, .int a1, .null], [.int x1], sM Ln I1 L1 c s) _
      refine dd_Rn.ite 0 (c := x1 = 0) (A := (16, [.ref 0, .int a1, .null], [], sM Ln I1 L1 c s)) (B := (27, [.ref 0, .int a1, .null], [], sM Ln I1 L1 c s)) rfl (fun hc => ?_) (fun hc => ?_) (by omega)
      · have h := h.1 hc
        exact dd_Rn.throw 0 (pc := 16) (ls := [.ref 0, .int a1, .null]) (st := []) (M := sM Ln I1 L1 c s) rfl rfl rfl (by omega) rfl h
      · have h := h.2 hc
        refine dd_Rn.cV 4 (pc := 35) (ls := [.ref 0, .int a1, .null]) (st := [.ref 1, .ref 31]) (x := m_X0_remember) (as := [.ref 31, .ref 1]) (rest := []) rfl rfl rfl rfl h ?_
        intro I2 L2 h
        show dd_Rn (e + 16) m_X10_fire (38, [.ref 0, .int a1, .null], [], sM Ln I2 L2 c s) _
        refine dd_Rn.cV 7 (pc := 51) (ls := [.ref 0, .int a1, .int (I2 1 13)]) (st := [.int a1, .ref 1]) (x := m_X8_putFire) (as := [.ref 1, .int a1]) (rest := []) rfl rfl rfl rfl h ?_
        intro I3 L3 h
        show dd_Rn (e + 16) m_X10_fire (54, [.ref 0, .int a1, .int (I2 1 13)], [], sM Ln I3 L3 c s) _
        exact dd_Rn.retK 1 (pc := 55) (ls := [.ref 0, .int a1, .int (I2 1 13)]) (st := [.int (I2 1 13)]) (M := sM Ln I3 L3 c s) (o := (none, .int (I2 1 13), sM Ln I3 L3 c s)) rfl rfl h (by omega)
    · have h := h.2 hc
      exact dd_Rn.throw 0 (pc := 10) (ls := [.ref 0, .int a1]) (st := []) (M := sM Ln I L c s) rfl rfl rfl (by omega) rfl (dd_Af.thr rfl rfl rfl h)

theorem w_X10_plant_0 {Ln d c s : Nat} {I : Nat → Nat → Int32} {L : Nat → Nat → Int64} {Q : dd_O → Prop} {a1 a2 : Int32} (hd : 28 ≤ d) (h : ((a1 < 0 → Q (some 2, .null, sM Ln I L (c + 1) (s + 6))) ∧ (¬ (a1 < 0) → ((a1 < 64 → ((a2 = 0 → dd_Ev (d - 1) m_X0_remember [.ref 31, .ref 1] (sM Ln I L c s) (dd_RV Ln c s (fun I1 L1 => dd_Ev (d - 1) m_X8_isOpen [.ref 1, .int a1] (sM Ln I1 L1 c s) (dd_RI Ln c s (fun x2 I2 L2 => ((x2 = a2 → Q (none, .int 1, sM Ln I2 (dd_u L2 1 (vp_updL (L2 1) 0 ((L2 1 0) ^^^ ((Int64.ofNat 1) <<< (a1.toInt64 &&& 63))))) c s)) ∧ (¬ (x2 = a2) → Q (none, .int 0, sM Ln I2 L2 c s)))))))) ∧ (¬ (a2 = 0) → dd_Ev (d - 1) m_X8_canPlant [.ref 1, .int a1] (sM Ln I L c s) (dd_RI Ln c s (fun x3 I3 L3 => ((x3 = 0 → Q (some 4, .null, sM Ln I3 L3 (c + 1) (s + 6))) ∧ (¬ (x3 = 0) → dd_Ev (d - 1) m_X0_remember [.ref 31, .ref 1] (sM Ln I3 L3 c s) (dd_RV Ln c s (fun I4 L4 => dd_Ev (d - 1) m_X8_isOpen [.ref 1, .int a1] (sM Ln I4 L4 c s) (dd_RI Ln c s (fun x5 I5 L5 => ((x5 = a2 → Q (none, .int 1, sM Ln I5 (dd_u L5 1 (vp_updL (L5 1) 0 ((L5 1 0) ^^^ ((Int64.ofNat 1) <<< (a1.toInt64 &&& 63))))) c s)) ∧ (¬ (x5 = a2) → Q (none, .int 0, sM Ln I5 L5 c s)))))))))))))) ∧ (¬ (a1 < 64) → Q (some 2, .null, sM Ln I L (c + 1) (s + 6))))))) : dd_Ev d m_X10_plant [.ref 0, .int a1, .int a2] (sM Ln I L c s) Q := by
  obtain ⟨e, rfl⟩ : ∃ e, d = e + 16 := ⟨d - 16, by omega⟩
  show dd_Rn (e + 16) m_X10_plant (0, [.ref 0, .int a1, .int a2, .null], [], sM Ln I L c s) Q
  refine dd_Rn.sub 2 (pc := 2) (ls := [.ref 0, .int a1, .int a2, .null]) (st := [.int a1, .ref 0]) (M := sM Ln I L c s) (x := m_X10_requireCell) (as := [.ref 0, .int a1]) (rest := []) rfl rfl rfl rfl ?_
  show dd_Rn (e + 15) m_X10_requireCell (0, [.ref 0, .int a1], [], sM Ln I L c s) _
  refine dd_Rn.ite 1 (c := a1 < 0) (A := (10, [.ref 0, .int a1], [], sM Ln I L c s)) (B := (4, [.ref 0, .int a1], [], sM Ln I L c s)) rfl (fun hc => ?_) (fun hc => ?_) (by omega)
  · have h := h.1 hc
    exact dd_Rn.throw 0 (pc := 10) (ls := [.ref 0, .int a1]) (st := []) (M := sM Ln I L c s) rfl rfl rfl (by omega) rfl (dd_Af.thr rfl rfl rfl h)
  · have h := h.2 hc
    refine dd_Rn.ite 2 (c := a1 < 64) (A := (20, [.ref 0, .int a1], [], sM Ln I L c s)) (B := (10, [.ref 0, .int a1], [], sM Ln I L c s)) rfl (fun hc => ?_) (fun hc => ?_) (by omega)
    · have h := h.1 hc
      refine dd_Rn.retK 0 (pc := 20) (ls := [.ref 0, .int a1]) (st := []) (M := sM Ln I L c s) (o := (none, .null, sM Ln I L c s)) rfl rfl (dd_Af.ret rfl ?_) (by omega)
      show dd_Rn (e + 16) m_X10_plant (5, [.ref 0, .int a1, .int a2, .null], [], sM Ln I L c s) _
      refine dd_Rn.ite 1 (c := a2 = 0) (A := (31, [.ref 0, .int a1, .int a2, .null], [], sM Ln I L c s)) (B := (9, [.ref 0, .int a1, .int a2, .null], [], sM Ln I L c s)) rfl (fun hc => ?_) (fun hc => ?_) (by omega)
      · have h := h.1 hc
        refine dd_Rn.cV 4 (pc := 39) (ls := [.ref 0, .int a1, .int a2, .null]) (st := [.ref 1, .ref 31]) (x := m_X0_remember) (as := [.ref 31, .ref 1]) (rest := []) rfl rfl rfl rfl h ?_
        intro I1 L1 h
        show dd_Rn (e + 16) m_X10_plant (42, [.ref 0, .int a1, .int a2, .null], [], sM Ln I1 L1 c s) _
        refine dd_Rn.cI 3 (pc := 47) (ls := [.ref 0, .int a1, .int a2, .null]) (st := [.int a1, .ref 1]) (x := m_X8_isOpen) (as := [.ref 1, .int a1]) (rest := []) rfl rfl rfl rfl h ?_
        intro x2 I2 L2 h
        show dd_Rn (e + 16) m_X10_plant (50, [.ref 0, .int a1, .int a2, .null], [.int x2], sM Ln I2 L2 c s) _
        refine dd_Rn.ite 1 (c := x2 = a2) (A := (54, [.ref 0, .int a1, .int a2, .null], [], sM Ln I2 L2 c s)) (B := (58, [.ref 0, .int a1, .int a2, .null], [], sM Ln I2 L2 c s)) rfl (fun hc => ?_) (fun hc => ?_) (by omega)
        · have h := h.1 hc
          exact dd_Rn.retK 15 (pc := 80) (ls := [.ref 0, .int a1, .int a2, .int 1]) (st := [.int 1]) (M := sM Ln I2 (dd_u L2 1 (vp_updL (L2 1) 0 ((L2 1 0) ^^^ ((Int64.ofNat 1) <<< (a1.toInt64 &&& 63))))) c s) (o := (none, .int 1, sM Ln I2 (dd_u L2 1 (vp_updL (L2 1) 0 ((L2 1 0) ^^^ ((Int64.ofNat 1) <<< (a1.toInt64 &&& 63))))) c s)) rfl rfl h (by omega)
        · have h := h.2 hc
          exact dd_Rn.retK 5 (pc := 80) (ls := [.ref 0, .int a1, .int a2, .int 0]) (st := [.int 0]) (M := sM Ln I2 L2 c s) (o := (none, .int 0, sM Ln I2 L2 c s)) rfl rfl h (by omega)
      · have h := h.2 hc
        refine dd_Rn.cI 3 (pc := 14) (ls := [.ref 0, .int a1, .int a2, .null]) (st := [.int a1, .ref 1]) (x := m_X8_canPlant) (as := [.ref 1, .int a1]) (rest := []) rfl rfl rfl rfl h ?_
        intro x3 I3 L3 h
        show dd_Rn (e + 16) m_X10_plant (17, [.ref 0, .int a1, .int a2, .null], [.int x3], sM Ln I3 L3 c s) _
        refine dd_Rn.ite 0 (c := x3 = 0) (A := (20, [.ref 0, .int a1, .int a2, .null], [], sM Ln I3 L3 c s)) (B := (31, [.ref 0, .int a1, .int a2, .null], [], sM Ln I3 L3 c s)) rfl (fun hc => ?_) (fun hc => ?_) (by omega)
        · have h := h.1 hc
          exact dd_Rn.throw 0 (pc := 20) (ls := [.ref 0, .int a1, .int a2, .null]) (st := []) (M := sM Ln I3 L3 c s) rfl rfl rfl (by omega) rfl h
        · have h := h.2 hc
          refine dd_Rn.cV 4 (pc := 39) (ls := [.ref 0, .int a1, .int a2, .null]) (st := [.ref 1, .ref 31]) (x := m_X0_remember) (as := [.ref 31, .ref 1]) (rest := []) rfl rfl rfl rfl h ?_
          intro I4 L4 h
          show dd_Rn (e + 16) m_X10_plant (42, [.ref 0, .int a1, .int a2, .null], [], sM Ln I4 L4 c s) _
          refine dd_Rn.cI 3 (pc := 47) (ls := [.ref 0, .int a1, .int a2, .null]) (st := [.int a1, .ref 1]) (x := m_X8_isOpen) (as := [.ref 1, .int a1]) (rest := []) rfl rfl rfl rfl h ?_
          intro x5 I5 L5 h
          show dd_Rn (e + 16) m_X10_plant (50, [.ref 0, .int a1, .int a2, .null], [.int x5], sM Ln I5 L5 c s) _
          refine dd_Rn.ite 1 (c := x5 = a2) (A := (54, [.ref 0, .int a1, .int a2, .null], [], sM Ln I5 L5 c s)) (B := (58, [.ref 0, .int a1, .int a2, .null], [], sM Ln I5 L5 c s)) rfl (fun hc => ?_) (fun hc => ?_) (by omega)
          · have h := h.1 hc
            exact dd_Rn.retK 15 (pc := 80) (ls := [.ref 0, .int a1, .int a2, .int 1]) (st := [.int 1]) (M := sM Ln I5 (dd_u L5 1 (vp_updL (L5 1) 0 ((L5 1 0) ^^^ ((Int64.ofNat 1) <<< (a1.toInt64 &&& 63))))) c s) (o := (none, .int 1, sM Ln I5 (dd_u L5 1 (vp_updL (L5 1) 0 ((L5 1 0) ^^^ ((Int64.ofNat 1) <<< (a1.toInt64 &&& 63))))) c s)) rfl rfl h (by omega)
          · have h := h.2 hc
            exact dd_Rn.retK 5 (pc := 80) (ls := [.ref 0, .int a1, .int a2, .int 0]) (st := [.int 0]) (M := sM Ln I5 L5 c s) (o := (none, .int 0, sM Ln I5 L5 c s)) rfl rfl h (by omega)
    · have h := h.2 hc
      exact dd_Rn.throw 0 (pc := 10) (ls := [.ref 0, .int a1]) (st := []) (M := sM Ln I L c s) rfl rfl rfl (by omega) rfl (dd_Af.thr rfl rfl rfl h)

theorem w_X10_part_0 {Ln d c s : Nat} {I : Nat → Nat → Int32} {L : Nat → Nat → Int64} {Q : dd_O → Prop} {a1 a2 : Int32} (hd : 28 ≤ d) (h : ((a1 < 0 → Q (some 2, .null, sM Ln I L (c + 1) (s + 6))) ∧ (¬ (a1 < 0) → ((a1 < I 1 10 → ((a2 < 0 → Q (some 2, .null, sM Ln I L (c + 1) (s + 6))) ∧ (¬ (a2 < 0) → ((a2 < I 1 9 → dd_Ev (d - 1) m_X0_remember [.ref 31, .ref 1] (sM Ln I L c s) (dd_RV Ln c s (fun I1 L1 => ((0 ≤ a1 ∧ tn a1 < 6) ∧ ((0 ≤ a1 ∧ tn a1 < 6) ∧ Q (none, .int (I1 5 (tn a1)), sM Ln (dd_u I1 5 (upd (I1 5) (tn a1) a2)) L1 c s)))))) ∧ (¬ (a2 < I 1 9) → Q (some 2, .null, sM Ln I L (c + 1) (s + 6))))))) ∧ (¬ (a1 < I 1 10) → Q (some 2, .null, sM Ln I L (c + 1) (s + 6))))))) : dd_Ev d m_X10_part [.ref 0, .int a1, .int a2] (sM Ln I L c s) Q := by
  obtain ⟨e, rfl⟩ : ∃ e, d = e + 16 := ⟨d - 16, by omega⟩
  show dd_Rn (e + 16) m_X10_part (0, [.ref 0, .int a1, .int a2, .null], [], sM Ln I L c s) Q
  refine dd_Rn.sub 2 (pc := 2) (ls := [.ref 0, .int a1, .int a2, .null]) (st := [.int a1, .ref 0]) (M := sM Ln I L c s) (x := m_X10_requireBoy) (as := [.ref 0, .int a1]) (rest := []) rfl rfl rfl rfl ?_
  show dd_Rn (e + 15) m_X10_requireBoy (0, [.ref 0, .int a1], [], sM Ln I L c s) _
  refine dd_Rn.ite 1 (c := a1 < 0) (A := (15, [.ref 0, .int a1], [], sM Ln I L c s)) (B := (4, [.ref 0, .int a1], [], sM Ln I L c s)) rfl (fun hc => ?_) (fun hc => ?_) (by omega)
  · have h := h.1 hc
    exact dd_Rn.throw 0 (pc := 15) (ls := [.ref 0, .int a1]) (st := []) (M := sM Ln I L c s) rfl rfl rfl (by omega) rfl (dd_Af.thr rfl rfl rfl h)
  · have h := h.2 hc
    refine dd_Rn.ite 4 (c := a1 < I 1 10) (A := (25, [.ref 0, .int a1], [], sM Ln I L c s)) (B := (15, [.ref 0, .int a1], [], sM Ln I L c s)) rfl (fun hc => ?_) (fun hc => ?_) (by omega)
    · have h := h.1 hc
      refine dd_Rn.retK 0 (pc := 25) (ls := [.ref 0, .int a1]) (st := []) (M := sM Ln I L c s) (o := (none, .null, sM Ln I L c s)) rfl rfl (dd_Af.ret rfl ?_) (by omega)
      show dd_Rn (e + 16) m_X10_part (5, [.ref 0, .int a1, .int a2, .null], [], sM Ln I L c s) _
      refine dd_Rn.sub 2 (pc := 7) (ls := [.ref 0, .int a1, .int a2, .null]) (st := [.int a2, .ref 0]) (M := sM Ln I L c s) (x := m_X10_requirePart) (as := [.ref 0, .int a2]) (rest := []) rfl rfl rfl rfl ?_
      show dd_Rn (e + 15) m_X10_requirePart (0, [.ref 0, .int a2], [], sM Ln I L c s) _
      refine dd_Rn.ite 1 (c := a2 < 0) (A := (15, [.ref 0, .int a2], [], sM Ln I L c s)) (B := (4, [.ref 0, .int a2], [], sM Ln I L c s)) rfl (fun hc => ?_) (fun hc => ?_) (by omega)
      · have h := h.1 hc
        exact dd_Rn.throw 0 (pc := 15) (ls := [.ref 0, .int a2]) (st := []) (M := sM Ln I L c s) rfl rfl rfl (by omega) rfl (dd_Af.thr rfl rfl rfl h)
      · have h := h.2 hc
        refine dd_Rn.ite 4 (c := a2 < I 1 9) (A := (25, [.ref 0, .int a2], [], sM Ln I L c s)) (B := (15, [.ref 0, .int a2], [], sM Ln I L c s)) rfl (fun hc => ?_) (fun hc => ?_) (by omega)
        · have h := h.1 hc
          refine dd_Rn.retK 0 (pc := 25) (ls := [.ref 0, .int a2]) (st := []) (M := sM Ln I L c s) (o := (none, .null, sM Ln I L c s)) rfl rfl (dd_Af.ret rfl ?_) (by omega)
          show dd_Rn (e + 16) m_X10_part (10, [.ref 0, .int a1, .int a2, .null], [], sM Ln I L c s) _
          refine dd_Rn.cV 4 (pc := 18) (ls := [.ref 0, .int a1, .int a2, .null]) (st := [.ref 1, .ref 31]) (x := m_X0_remember) (as := [.ref 31, .ref 1]) (rest := []) rfl rfl rfl rfl h ?_
          intro I1 L1 h
          show dd_Rn (e + 16) m_X10_part (21, [.ref 0, .int a1, .int a2, .null], [], sM Ln I1 L1 c s) _
          obtain ⟨hc, h⟩ := h
          refine dd_Rn.chk 4 (c := 0 ≤ a1 ∧ tn a1 < 6) (A := (30, [.ref 0, .int a1, .int a2, .null], [.int (I1 5 (tn a1))], sM Ln I1 L1 c s)) rfl hc ?_ (by omega)
          obtain ⟨hc, h⟩ := h
          refine dd_Rn.chk 6 (c := 0 ≤ a1 ∧ tn a1 < 6) (A := (41, [.ref 0, .int a1, .int a2, .int (I1 5 (tn a1))], [], sM Ln (dd_u I1 5 (upd (I1 5) (tn a1) a2)) L1 c s)) rfl hc ?_ (by omega)
          exact dd_Rn.retK 1 (pc := 42) (ls := [.ref 0, .int a1, .int a2, .int (I1 5 (tn a1))]) (st := [.int (I1 5 (tn a1))]) (M := sM Ln (dd_u I1 5 (upd (I1 5) (tn a1) a2)) L1 c s) (o := (none, .int (I1 5 (tn a1)), sM Ln (dd_u I1 5 (upd (I1 5) (tn a1) a2)) L1 c s)) rfl rfl h (by omega)
        · have h := h.2 hc
          exact dd_Rn.throw 0 (pc := 15) (ls := [.ref 0, .int a2]) (st := []) (M := sM Ln I L c s) rfl rfl rfl (by omega) rfl (dd_Af.thr rfl rfl rfl h)
    · have h := h.2 hc
      exact dd_Rn.throw 0 (pc := 15) (ls := [.ref 0, .int a1]) (st := []) (M := sM Ln I L c s) rfl rfl rfl (by omega) rfl (dd_Af.thr rfl rfl rfl h)

theorem w_X10_tune_0 {Ln d c s : Nat} {I : Nat → Nat → Int32} {L : Nat → Nat → Int64} {Q : dd_O → Prop} {a1 a2 a3 : Int32} (hd : 28 ≤ d) (h : ((a1 < 0 → Q (some 2, .null, sM Ln I L (c + 1) (s + 6))) ∧ (¬ (a1 < 0) → ((a1 < I 1 9 → ((a2 < 0 → Q (some 2, .null, sM Ln I L (c + 1) (s + 6))) ∧ (¬ (a2 < 0) → ((a2 < 8 → ((a3 < 0 → Q (some 0, .null, sM Ln I L (c + 1) (s + 6))) ∧ (¬ (a3 < 0) → ((a3 ≤ 7 → dd_Ev (d - 1) m_X0_remember [.ref 31, .ref 1] (sM Ln I L c s) (dd_RV Ln c s (fun I1 L1 => ((0 ≤ (a1 * 8) + a2 ∧ tn ((a1 * 8) + a2) < 48) ∧ ((0 ≤ (a1 * 8) + a2 ∧ tn ((a1 * 8) + a2) < 48) ∧ Q (none, .int (I1 3 (tn ((a1 * 8) + a2))), sM Ln (dd_u I1 3 (upd (I1 3) (tn ((a1 * 8) + a2)) a3)) L1 c s)))))) ∧ (¬ (a3 ≤ 7) → Q (some 0, .null, sM Ln I L (c + 1) (s + 6))))))) ∧ (¬ (a2 < 8) → Q (some 2, .null, sM Ln I L (c + 1) (s + 6))))))) ∧ (¬ (a1 < I 1 9) → Q (some 2, .null, sM Ln I L (c + 1) (s + 6))))))) : dd_Ev d m_X10_tune [.ref 0, .int a1, .int a2, .int a3] (sM Ln I L c s) Q := by
  obtain ⟨e, rfl⟩ : ∃ e, d = e + 16 := ⟨d - 16, by omega⟩
  show dd_Rn (e + 16) m_X10_tune (0, [.ref 0, .int a1, .int a2, .int a3, .null], [], sM Ln I L c s) Q
  refine dd_Rn.sub 2 (pc := 2) (ls := [.ref 0, .int a1, .int a2, .int a3, .null]) (st := [.int a1, .ref 0]) (M := sM Ln I L c s) (x := m_X10_requirePart) (as := [.ref 0, .int a1]) (rest := []) rfl rfl rfl rfl ?_
  show dd_Rn (e + 15) m_X10_requirePart (0, [.ref 0, .int a1], [], sM Ln I L c s) _
  refine dd_Rn.ite 1 (c := a1 < 0) (A := (15, [.ref 0, .int a1], [], sM Ln I L c s)) (B := (4, [.ref 0, .int a1], [], sM Ln I L c s)) rfl (fun hc => ?_) (fun hc => ?_) (by omega)
  · have h := h.1 hc
    exact dd_Rn.throw 0 (pc := 15) (ls := [.ref 0, .int a1]) (st := []) (M := sM Ln I L c s) rfl rfl rfl (by omega) rfl (dd_Af.thr rfl rfl rfl h)
  · have h := h.2 hc
    refine dd_Rn.ite 4 (c := a1 < I 1 9) (A := (25, [.ref 0, .int a1], [], sM Ln I L c s)) (B := (15, [.ref 0, .int a1], [], sM Ln I L c s)) rfl (fun hc => ?_) (fun hc => ?_) (by omega)
    · have h := h.1 hc
      refine dd_Rn.retK 0 (pc := 25) (ls := [.ref 0, .int a1]) (st := []) (M := sM Ln I L c s) (o := (none, .null, sM Ln I L c s)) rfl rfl (dd_Af.ret rfl ?_) (by omega)
      show dd_Rn (e + 16) m_X10_tune (5, [.ref 0, .int a1, .int a2, .int a3, .null], [], sM Ln I L c s) _
      refine dd_Rn.sub 2 (pc := 7) (ls := [.ref 0, .int a1, .int a2, .int a3, .null]) (st := [.int a2, .ref 0]) (M := sM Ln I L c s) (x := m_X10_requireBeat) (as := [.ref 0, .int a2]) (rest := []) rfl rfl rfl rfl ?_
      show dd_Rn (e + 15) m_X10_requireBeat (0, [.ref 0, .int a2], [], sM Ln I L c s) _
      refine dd_Rn.ite 1 (c := a2 < 0) (A := (10, [.ref 0, .int a2], [], sM Ln I L c s)) (B := (4, [.ref 0, .int a2], [], sM Ln I L c s)) rfl (fun hc => ?_) (fun hc => ?_) (by omega)
      · have h := h.1 hc
        exact dd_Rn.throw 0 (pc := 10) (ls := [.ref 0, .int a2]) (st := []) (M := sM Ln I L c s) rfl rfl rfl (by omega) rfl (dd_Af.thr rfl rfl rfl h)
      · have h := h.2 hc
        refine dd_Rn.ite 2 (c := a2 < 8) (A := (20, [.ref 0, .int a2], [], sM Ln I L c s)) (B := (10, [.ref 0, .int a2], [], sM Ln I L c s)) rfl (fun hc => ?_) (fun hc => ?_) (by omega)
        · have h := h.1 hc
          refine dd_Rn.retK 0 (pc := 20) (ls := [.ref 0, .int a2]) (st := []) (M := sM Ln I L c s) (o := (none, .null, sM Ln I L c s)) rfl rfl (dd_Af.ret rfl ?_) (by omega)
          show dd_Rn (e + 16) m_X10_tune (10, [.ref 0, .int a1, .int a2, .int a3, .null], [], sM Ln I L c s) _
          refine dd_Rn.sub 4 (pc := 15) (ls := [.ref 0, .int a1, .int a2, .int a3, .null]) (st := [.int 7, .int 0, .int a3, .ref 0]) (M := sM Ln I L c s) (x := m_X10_requireNumber) (as := [.ref 0, .int a3, .int 0, .int 7]) (rest := []) rfl rfl rfl rfl ?_
          show dd_Rn (e + 15) m_X10_requireNumber (0, [.ref 0, .int a3, .int 0, .int 7], [], sM Ln I L c s) _
          refine dd_Rn.ite 2 (c := a3 < 0) (A := (10, [.ref 0, .int a3, .int 0, .int 7], [], sM Ln I L c s)) (B := (5, [.ref 0, .int a3, .int 0, .int 7], [], sM Ln I L c s)) rfl (fun hc => ?_) (fun hc => ?_) (by omega)
          · have h := h.1 hc
            exact dd_Rn.throw 0 (pc := 10) (ls := [.ref 0, .int a3, .int 0, .int 7]) (st := []) (M := sM Ln I L c s) rfl rfl rfl (by omega) rfl (dd_Af.thr rfl rfl rfl h)
          · have h := h.2 hc
            refine dd_Rn.ite 2 (c := a3 ≤ 7) (A := (20, [.ref 0, .int a3, .int 0, .int 7], [], sM Ln I L c s)) (B := (10, [.ref 0, .int a3, .int 0, .int 7], [], sM Ln I L c s)) rfl (fun hc => ?_) (fun hc => ?_) (by omega)
            · have h := h.1 hc
              refine dd_Rn.retK 0 (pc := 20) (ls := [.ref 0, .int a3, .int 0, .int 7]) (st := []) (M := sM Ln I L c s) (o := (none, .null, sM Ln I L c s)) rfl rfl (dd_Af.ret rfl ?_) (by omega)
              show dd_Rn (e + 16) m_X10_tune (18, [.ref 0, .int a1, .int a2, .int a3, .null], [], sM Ln I L c s) _
              refine dd_Rn.cV 4 (pc := 26) (ls := [.ref 0, .int a1, .int a2, .int a3, .null]) (st := [.ref 1, .ref 31]) (x := m_X0_remember) (as := [.ref 31, .ref 1]) (rest := []) rfl rfl rfl rfl h ?_
              intro I1 L1 h
              show dd_Rn (e + 16) m_X10_tune (29, [.ref 0, .int a1, .int a2, .int a3, .null], [], sM Ln I1 L1 c s) _
              obtain ⟨hc, h⟩ := h
              refine dd_Rn.go 8 (cf' := (42, [.ref 0, .int a1, .int a2, .int a3, .null], [.int ((a1 * 8) + a2), .ref 3], sM Ln I1 L1 c s)) rfl ?_ (by omega)
              refine dd_Rn.ci (fun j0 => (42, [.ref 0, .int a1, .int a2, .int a3, .null], [.int j0, .ref 3], sM Ln I1 L1 c s)) (fun j0 => (43, [.ref 0, .int a1, .int a2, .int a3, .null], [.int (I1 3 (tn j0))], sM Ln I1 L1 c s)) (fun j0 => 0 ≤ j0 ∧ tn j0 < 48) ((a1 * 8) + a2) (fun j0 hc h => dd_Rn.chk 0 (c := 0 ≤ j0 ∧ tn j0 < 48) (A := (43, [.ref 0, .int a1, .int a2, .int a3, .null], [.int (I1 3 (tn j0))], sM Ln I1 L1 c s)) rfl hc h (by omega)) hc ?_
              refine dd_Rn.se (cf := (43, [.ref 0, .int a1, .int a2, .int a3, .null], [.int (I1 3 (tn ((a1 * 8) + a2)))], sM Ln I1 L1 c s)) ?_
              obtain ⟨hc, h⟩ := h
              refine dd_Rn.go 10 (cf' := (59, [.ref 0, .int a1, .int a2, .int a3, .int (I1 3 (tn ((a1 * 8) + a2)))], [.int a3, .int ((a1 * 8) + a2), .ref 3], sM Ln I1 L1 c s)) rfl ?_ (by omega)
              refine dd_Rn.ci (fun j0 => (59, [.ref 0, .int a1, .int a2, .int a3, .int (I1 3 (tn ((a1 * 8) + a2)))], [.int a3, .int j0, .ref 3], sM Ln I1 L1 c s)) (fun j0 => (60, [.ref 0, .int a1, .int a2, .int a3, .int (I1 3 (tn ((a1 * 8) + a2)))], [], sM Ln (dd_u I1 3 (upd (I1 3) (tn j0) a3)) L1 c s)) (fun j0 => 0 ≤ j0 ∧ tn j0 < 48) ((a1 * 8) + a2) (fun j0 hc h => dd_Rn.chk 0 (c := 0 ≤ j0 ∧ tn j0 < 48) (A := (60, [.ref 0, .int a1, .int a2, .int a3, .int (I1 3 (tn ((a1 * 8) + a2)))], [], sM Ln (dd_u I1 3 (upd (I1 3) (tn j0) a3)) L1 c s)) rfl hc h (by omega)) hc ?_
              refine dd_Rn.se (cf := (60, [.ref 0, .int a1, .int a2, .int a3, .int (I1 3 (tn ((a1 * 8) + a2)))], [], sM Ln (dd_u I1 3 (upd (I1 3) (tn ((a1 * 8) + a2)) a3)) L1 c s)) ?_
              exact dd_Rn.retK 1 (pc := 62) (ls := [.ref 0, .int a1, .int a2, .int a3, .int (I1 3 (tn ((a1 * 8) + a2)))]) (st := [.int (I1 3 (tn ((a1 * 8) + a2)))]) (M := sM Ln (dd_u I1 3 (upd (I1 3) (tn ((a1 * 8) + a2)) a3)) L1 c s) (o := (none, .int (I1 3 (tn ((a1 * 8) + a2))), sM Ln (dd_u I1 3 (upd (I1 3) (tn ((a1 * 8) + a2)) a3)) L1 c s)) rfl rfl h (by omega)
            · have h := h.2 hc
              exact dd_Rn.throw 0 (pc := 10) (ls := [.ref 0, .int a3, .int 0, .int 7]) (st := []) (M := sM Ln I L c s) rfl rfl rfl (by omega) rfl (dd_Af.thr rfl rfl rfl h)
        · have h := h.2 hc
          exact dd_Rn.throw 0 (pc := 10) (ls := [.ref 0, .int a2]) (st := []) (M := sM Ln I L c s) rfl rfl rfl (by omega) rfl (dd_Af.thr rfl rfl rfl h)
    · have h := h.2 hc
      exact dd_Rn.throw 0 (pc := 15) (ls := [.ref 0, .int a1]) (st := []) (M := sM Ln I L c s) rfl rfl rfl (by omega) rfl (dd_Af.thr rfl rfl rfl h)

theorem w_X10_call_0 {Ln d c s : Nat} {I : Nat → Nat → Int32} {L : Nat → Nat → Int64} {Q : dd_O → Prop} {a1 : Int32} (hd : 28 ≤ d) (h : ((a1 < 0 → Q (some 2, .null, sM Ln I L (c + 1) (s + 6))) ∧ (¬ (a1 < 0) → ((a1 < I 1 10 → dd_Ev (d - 1) m_X8_isIn [.ref 1, .int a1] (sM Ln I L c s) (dd_RI Ln c s (fun x1 I1 L1 => ((x1 = 0 → dd_Ev (d - 1) m_X0_remember [.ref 31, .ref 1] (sM Ln I1 L1 c s) (dd_RV Ln c s (fun I2 L2 => ((0 ≤ a1 ∧ tn a1 < 6) ∧ dd_Ev (d - 1) m_X8_putBoy [.ref 1, .int a1, .int (I2 1 13)] (sM Ln I2 L2 c s) (dd_RV Ln c s (fun I3 L3 => Q (none, .int (I2 4 (tn a1)), sM Ln I3 L3 c s))))))) ∧ (¬ (x1 = 0) → Q (some 4, .null, sM Ln I1 L1 (c + 1) (s + 6))))))) ∧ (¬ (a1 < I 1 10) → Q (some 2, .null, sM Ln I L (c + 1) (s + 6))))))) : dd_Ev d m_X10_call [.ref 0, .int a1] (sM Ln I L c s) Q := by
  obtain ⟨e, rfl⟩ : ∃ e, d = e + 16 := ⟨d - 16, by omega⟩
  show dd_Rn (e + 16) m_X10_call (0, [.ref 0, .int a1, .null], [], sM Ln I L c s) Q
  refine dd_Rn.sub 2 (pc := 2) (ls := [.ref 0, .int a1, .null]) (st := [.int a1, .ref 0]) (M := sM Ln I L c s) (x := m_X10_requireBoy) (as := [.ref 0, .int a1]) (rest := []) rfl rfl rfl rfl ?_
  show dd_Rn (e + 15) m_X10_requireBoy (0, [.ref 0, .int a1], [], sM Ln I L c s) _
  refine dd_Rn.ite 1 (c := a1 < 0) (A := (15, [.ref 0, .int a1], [], sM Ln I L c s)) (B := (4, [.ref 0, .int a1], [], sM Ln I L c s)) rfl (fun hc => ?_) (fun hc => ?_) (by omega)
  · have h := h.1 hc
    exact dd_Rn.throw 0 (pc := 15) (ls := [.ref 0, .int a1]) (st := []) (M := sM Ln I L c s) rfl rfl rfl (by omega) rfl (dd_Af.thr rfl rfl rfl h)
  · have h := h.2 hc
    refine dd_Rn.ite 4 (c := a1 < I 1 10) (A := (25, [.ref 0, .int a1], [], sM Ln I L c s)) (B := (15, [.ref 0, .int a1], [], sM Ln I L c s)) rfl (fun hc => ?_) (fun hc => ?_) (by omega)
    · have h := h.1 hc
      refine dd_Rn.retK 0 (pc := 25) (ls := [.ref 0, .int a1]) (st := []) (M := sM Ln I L c s) (o := (none, .null, sM Ln I L c s)) rfl rfl (dd_Af.ret rfl ?_) (by omega)
      show dd_Rn (e + 16) m_X10_call (5, [.ref 0, .int a1, .null], [], sM Ln I L c s) _
      refine dd_Rn.cI 3 (pc := 10) (ls := [.ref 0, .int a1, .null]) (st := [.int a1, .ref 1]) (x := m_X8_isIn) (as := [.ref 1, .int a1]) (rest := []) rfl rfl rfl rfl h ?_
      intro x1 I1 L1 h
      show dd_Rn (e + 16) m_X10_call (13, [.ref 0, .int a1, .null], [.int x1], sM Ln I1 L1 c s) _
      refine dd_Rn.ite 0 (c := x1 = 0) (A := (27, [.ref 0, .int a1, .null], [], sM Ln I1 L1 c s)) (B := (16, [.ref 0, .int a1, .null], [], sM Ln I1 L1 c s)) rfl (fun hc => ?_) (fun hc => ?_) (by omega)
      · have h := h.1 hc
        refine dd_Rn.cV 4 (pc := 35) (ls := [.ref 0, .int a1, .null]) (st := [.ref 1, .ref 31]) (x := m_X0_remember) (as := [.ref 31, .ref 1]) (rest := []) rfl rfl rfl rfl h ?_
        intro I2 L2 h
        show dd_Rn (e + 16) m_X10_call (38, [.ref 0, .int a1, .null], [], sM Ln I2 L2 c s) _
        obtain ⟨hc, h⟩ := h
        refine dd_Rn.chk 4 (c := 0 ≤ a1 ∧ tn a1 < 6) (A := (47, [.ref 0, .int a1, .null], [.int (I2 4 (tn a1))], sM Ln I2 L2 c s)) rfl hc ?_ (by omega)
        refine dd_Rn.cV 7 (pc := 60) (ls := [.ref 0, .int a1, .int (I2 4 (tn a1))]) (st := [.int (I2 1 13), .int a1, .ref 1]) (x := m_X8_putBoy) (as := [.ref 1, .int a1, .int (I2 1 13)]) (rest := []) rfl rfl rfl rfl h ?_
        intro I3 L3 h
        show dd_Rn (e + 16) m_X10_call (63, [.ref 0, .int a1, .int (I2 4 (tn a1))], [], sM Ln I3 L3 c s) _
        exact dd_Rn.retK 1 (pc := 64) (ls := [.ref 0, .int a1, .int (I2 4 (tn a1))]) (st := [.int (I2 4 (tn a1))]) (M := sM Ln I3 L3 c s) (o := (none, .int (I2 4 (tn a1)), sM Ln I3 L3 c s)) rfl rfl h (by omega)
      · have h := h.2 hc
        exact dd_Rn.throw 0 (pc := 16) (ls := [.ref 0, .int a1, .null]) (st := []) (M := sM Ln I1 L1 c s) rfl rfl rfl (by omega) rfl h
    · have h := h.2 hc
      exact dd_Rn.throw 0 (pc := 15) (ls := [.ref 0, .int a1]) (st := []) (M := sM Ln I L c s) rfl rfl rfl (by omega) rfl (dd_Af.thr rfl rfl rfl h)

theorem w_X10_send_0 {Ln d c s : Nat} {I : Nat → Nat → Int32} {L : Nat → Nat → Int64} {Q : dd_O → Prop} {a1 a2 : Int32} (hd : 28 ≤ d) (h : ((a1 < 0 → Q (some 2, .null, sM Ln I L (c + 1) (s + 6))) ∧ (¬ (a1 < 0) → ((a1 < I 1 10 → ((a2 < 0 → Q (some 2, .null, sM Ln I L (c + 1) (s + 6))) ∧ (¬ (a2 < 0) → ((a2 < 64 → dd_Ev (d - 1) m_X8_isOpen [.ref 1, .int a2] (sM Ln I L c s) (dd_RI Ln c s (fun x1 I1 L1 => ((x1 = 0 → Q (some 4, .null, sM Ln I1 L1 (c + 1) (s + 6))) ∧ (¬ (x1 = 0) → ((a2 = I1 1 13 → Q (some 4, .null, sM Ln I1 L1 (c + 1) (s + 6))) ∧ (¬ (a2 = I1 1 13) → dd_Ev (d - 1) m_X0_remember [.ref 31, .ref 1] (sM Ln I1 L1 c s) (dd_RV Ln c s (fun I2 L2 => ((0 ≤ a1 ∧ tn a1 < 6) ∧ dd_Ev (d - 1) m_X8_putBoy [.ref 1, .int a1, .int a2] (sM Ln I2 L2 c s) (dd_RV Ln c s (fun I3 L3 => Q (none, .int (I2 4 (tn a1)), sM Ln I3 L3 c s))))))))))))) ∧ (¬ (a2 < 64) → Q (some 2, .null, sM Ln I L (c + 1) (s + 6))))))) ∧ (¬ (a1 < I 1 10) → Q (some 2, .null, sM Ln I L (c + 1) (s + 6))))))) : dd_Ev d m_X10_send [.ref 0, .int a1, .int a2] (sM Ln I L c s) Q := by
  obtain ⟨e, rfl⟩ : ∃ e, d = e + 16 := ⟨d - 16, by omega⟩
  show dd_Rn (e + 16) m_X10_send (0, [.ref 0, .int a1, .int a2, .null], [], sM Ln I L c s) Q
  refine dd_Rn.sub 2 (pc := 2) (ls := [.ref 0, .int a1, .int a2, .null]) (st := [.int a1, .ref 0]) (M := sM Ln I L c s) (x := m_X10_requireBoy) (as := [.ref 0, .int a1]) (rest := []) rfl rfl rfl rfl ?_
  show dd_Rn (e + 15) m_X10_requireBoy (0, [.ref 0, .int a1], [], sM Ln I L c s) _
  refine dd_Rn.ite 1 (c := a1 < 0) (A := (15, [.ref 0, .int a1], [], sM Ln I L c s)) (B := (4, [.ref 0, .int a1], [], sM Ln I L c s)) rfl (fun hc => ?_) (fun hc => ?_) (by omega)
  · have h := h.1 hc
    exact dd_Rn.throw 0 (pc := 15) (ls := [.ref 0, .int a1]) (st := []) (M := sM Ln I L c s) rfl rfl rfl (by omega) rfl (dd_Af.thr rfl rfl rfl h)
  · have h := h.2 hc
    refine dd_Rn.ite 4 (c := a1 < I 1 10) (A := (25, [.ref 0, .int a1], [], sM Ln I L c s)) (B := (15, [.ref 0, .int a1], [], sM Ln I L c s)) rfl (fun hc => ?_) (fun hc => ?_) (by omega)
    · have h := h.1 hc
      refine dd_Rn.retK 0 (pc := 25) (ls := [.ref 0, .int a1]) (st := []) (M := sM Ln I L c s) (o := (none, .null, sM Ln I L c s)) rfl rfl (dd_Af.ret rfl ?_) (by omega)
      show dd_Rn (e + 16) m_X10_send (5, [.ref 0, .int a1, .int a2, .null], [], sM Ln I L c s) _
      refine dd_Rn.sub 2 (pc := 7) (ls := [.ref 0, .int a1, .int a2, .null]) (st := [.int a2, .ref 0]) (M := sM Ln I L c s) (x := m_X10_requireCell) (as := [.ref 0, .int a2]) (rest := []) rfl rfl rfl rfl ?_
      show dd_Rn (e + 15) m_X10_requireCell (0, [.ref 0, .int a2], [], sM Ln I L c s) _
      refine dd_Rn.ite 1 (c := a2 < 0) (A := (10, [.ref 0, .int a2], [], sM Ln I L c s)) (B := (4, [.ref 0, .int a2], [], sM Ln I L c s)) rfl (fun hc => ?_) (fun hc => ?_) (by omega)
      · have h := h.1 hc
        exact dd_Rn.throw 0 (pc := 10) (ls := [.ref 0, .int a2]) (st := []) (M := sM Ln I L c s) rfl rfl rfl (by omega) rfl (dd_Af.thr rfl rfl rfl h)
      · have h := h.2 hc
        refine dd_Rn.ite 2 (c := a2 < 64) (A := (20, [.ref 0, .int a2], [], sM Ln I L c s)) (B := (10, [.ref 0, .int a2], [], sM Ln I L c s)) rfl (fun hc => ?_) (fun hc => ?_) (by omega)
        · have h := h.1 hc
          refine dd_Rn.retK 0 (pc := 20) (ls := [.ref 0, .int a2]) (st := []) (M := sM Ln I L c s) (o := (none, .null, sM Ln I L c s)) rfl rfl (dd_Af.ret rfl ?_) (by omega)
          show dd_Rn (e + 16) m_X10_send (10, [.ref 0, .int a1, .int a2, .null], [], sM Ln I L c s) _
          refine dd_Rn.cI 3 (pc := 15) (ls := [.ref 0, .int a1, .int a2, .null]) (st := [.int a2, .ref 1]) (x := m_X8_isOpen) (as := [.ref 1, .int a2]) (rest := []) rfl rfl rfl rfl h ?_
          intro x1 I1 L1 h
          show dd_Rn (e + 16) m_X10_send (18, [.ref 0, .int a1, .int a2, .null], [.int x1], sM Ln I1 L1 c s) _
          refine dd_Rn.ite 0 (c := x1 = 0) (A := (32, [.ref 0, .int a1, .int a2, .null], [], sM Ln I1 L1 c s)) (B := (21, [.ref 0, .int a1, .int a2, .null], [], sM Ln I1 L1 c s)) rfl (fun hc => ?_) (fun hc => ?_) (by omega)
          · have h := h.1 hc
            exact dd_Rn.throw 0 (pc := 32) (ls := [.ref 0, .int a1, .int a2, .null]) (st := []) (M := sM Ln I1 L1 c s) rfl rfl rfl (by omega) rfl h
          · have h := h.2 hc
            refine dd_Rn.ite 4 (c := a2 = I1 1 13) (A := (32, [.ref 0, .int a1, .int a2, .null], [], sM Ln I1 L1 c s)) (B := (43, [.ref 0, .int a1, .int a2, .null], [], sM Ln I1 L1 c s)) rfl (fun hc => ?_) (fun hc => ?_) (by omega)
            · have h := h.1 hc
              exact dd_Rn.throw 0 (pc := 32) (ls := [.ref 0, .int a1, .int a2, .null]) (st := []) (M := sM Ln I1 L1 c s) rfl rfl rfl (by omega) rfl h
            · have h := h.2 hc
              refine dd_Rn.cV 4 (pc := 51) (ls := [.ref 0, .int a1, .int a2, .null]) (st := [.ref 1, .ref 31]) (x := m_X0_remember) (as := [.ref 31, .ref 1]) (rest := []) rfl rfl rfl rfl h ?_
              intro I2 L2 h
              show dd_Rn (e + 16) m_X10_send (54, [.ref 0, .int a1, .int a2, .null], [], sM Ln I2 L2 c s) _
              obtain ⟨hc, h⟩ := h
              refine dd_Rn.chk 4 (c := 0 ≤ a1 ∧ tn a1 < 6) (A := (63, [.ref 0, .int a1, .int a2, .null], [.int (I2 4 (tn a1))], sM Ln I2 L2 c s)) rfl hc ?_ (by omega)
              refine dd_Rn.cV 5 (pc := 70) (ls := [.ref 0, .int a1, .int a2, .int (I2 4 (tn a1))]) (st := [.int a2, .int a1, .ref 1]) (x := m_X8_putBoy) (as := [.ref 1, .int a1, .int a2]) (rest := []) rfl rfl rfl rfl h ?_
              intro I3 L3 h
              show dd_Rn (e + 16) m_X10_send (73, [.ref 0, .int a1, .int a2, .int (I2 4 (tn a1))], [], sM Ln I3 L3 c s) _
              exact dd_Rn.retK 1 (pc := 74) (ls := [.ref 0, .int a1, .int a2, .int (I2 4 (tn a1))]) (st := [.int (I2 4 (tn a1))]) (M := sM Ln I3 L3 c s) (o := (none, .int (I2 4 (tn a1)), sM Ln I3 L3 c s)) rfl rfl h (by omega)
        · have h := h.2 hc
          exact dd_Rn.throw 0 (pc := 10) (ls := [.ref 0, .int a2]) (st := []) (M := sM Ln I L c s) rfl rfl rfl (by omega) rfl (dd_Af.thr rfl rfl rfl h)
    · have h := h.2 hc
      exact dd_Rn.throw 0 (pc := 15) (ls := [.ref 0, .int a1]) (st := []) (M := sM Ln I L c s) rfl rfl rfl (by omega) rfl (dd_Af.thr rfl rfl rfl h)

theorem w_X10_loud_0 {Ln d c s : Nat} {I : Nat → Nat → Int32} {L : Nat → Nat → Int64} {Q : dd_O → Prop} {a1 : Int32} (hd : 28 ≤ d) (h : ((a1 < 0 → Q (some 0, .null, sM Ln I L (c + 1) (s + 6))) ∧ (¬ (a1 < 0) → ((a1 ≤ 15 → dd_Ev (d - 1) m_X0_remember [.ref 31, .ref 1] (sM Ln I L c s) (dd_RV Ln c s (fun I1 L1 => Q (none, .int (I1 1 14), sM Ln (dd_u I1 1 (upd (I1 1) 14 a1)) L1 c s)))) ∧ (¬ (a1 ≤ 15) → Q (some 0, .null, sM Ln I L (c + 1) (s + 6))))))) : dd_Ev d m_X10_loud [.ref 0, .int a1] (sM Ln I L c s) Q := by
  obtain ⟨e, rfl⟩ : ∃ e, d = e + 16 := ⟨d - 16, by omega⟩
  show dd_Rn (e + 16) m_X10_loud (0, [.ref 0, .int a1, .null], [], sM Ln I L c s) Q
  refine dd_Rn.sub 4 (pc := 5) (ls := [.ref 0, .int a1, .null]) (st := [.int 15, .int 0, .int a1, .ref 0]) (M := sM Ln I L c s) (x := m_X10_requireNumber) (as := [.ref 0, .int a1, .int 0, .int 15]) (rest := []) rfl rfl rfl rfl ?_
  show dd_Rn (e + 15) m_X10_requireNumber (0, [.ref 0, .int a1, .int 0, .int 15], [], sM Ln I L c s) _
  refine dd_Rn.ite 2 (c := a1 < 0) (A := (10, [.ref 0, .int a1, .int 0, .int 15], [], sM Ln I L c s)) (B := (5, [.ref 0, .int a1, .int 0, .int 15], [], sM Ln I L c s)) rfl (fun hc => ?_) (fun hc => ?_) (by omega)
  · have h := h.1 hc
    exact dd_Rn.throw 0 (pc := 10) (ls := [.ref 0, .int a1, .int 0, .int 15]) (st := []) (M := sM Ln I L c s) rfl rfl rfl (by omega) rfl (dd_Af.thr rfl rfl rfl h)
  · have h := h.2 hc
    refine dd_Rn.ite 2 (c := a1 ≤ 15) (A := (20, [.ref 0, .int a1, .int 0, .int 15], [], sM Ln I L c s)) (B := (10, [.ref 0, .int a1, .int 0, .int 15], [], sM Ln I L c s)) rfl (fun hc => ?_) (fun hc => ?_) (by omega)
    · have h := h.1 hc
      refine dd_Rn.retK 0 (pc := 20) (ls := [.ref 0, .int a1, .int 0, .int 15]) (st := []) (M := sM Ln I L c s) (o := (none, .null, sM Ln I L c s)) rfl rfl (dd_Af.ret rfl ?_) (by omega)
      show dd_Rn (e + 16) m_X10_loud (8, [.ref 0, .int a1, .null], [], sM Ln I L c s) _
      refine dd_Rn.cV 4 (pc := 16) (ls := [.ref 0, .int a1, .null]) (st := [.ref 1, .ref 31]) (x := m_X0_remember) (as := [.ref 31, .ref 1]) (rest := []) rfl rfl rfl rfl h ?_
      intro I1 L1 h
      show dd_Rn (e + 16) m_X10_loud (19, [.ref 0, .int a1, .null], [], sM Ln I1 L1 c s) _
      exact dd_Rn.retK 9 (pc := 36) (ls := [.ref 0, .int a1, .int (I1 1 14)]) (st := [.int (I1 1 14)]) (M := sM Ln (dd_u I1 1 (upd (I1 1) 14 a1)) L1 c s) (o := (none, .int (I1 1 14), sM Ln (dd_u I1 1 (upd (I1 1) 14 a1)) L1 c s)) rfl rfl h (by omega)
    · have h := h.2 hc
      exact dd_Rn.throw 0 (pc := 10) (ls := [.ref 0, .int a1, .int 0, .int 15]) (st := []) (M := sM Ln I L c s) rfl rfl rfl (by omega) rfl (dd_Af.thr rfl rfl rfl h)

theorem w_X10_path_0 {Ln d c s : Nat} {I : Nat → Nat → Int32} {L : Nat → Nat → Int64} {Q : dd_O → Prop} {a1 a2 : Int32} (hd : 28 ≤ d) (h : ((a1 < 0 → Q (some 2, .null, sM Ln I L (c + 1) (s + 6))) ∧ (¬ (a1 < 0) → ((a1 < 64 → ((a2 < 0 → Q (some 2, .null, sM Ln I L (c + 1) (s + 6))) ∧ (¬ (a2 < 0) → ((a2 < 64 → dd_Ev (d - 1) m_X7_stepsBetween [.ref 139, .int a1, .int a2] (sM Ln I L c s) (dd_RI Ln c s (fun x1 I1 L1 => Q (none, .int x1, sM Ln I1 L1 c s)))) ∧ (¬ (a2 < 64) → Q (some 2, .null, sM Ln I L (c + 1) (s + 6))))))) ∧ (¬ (a1 < 64) → Q (some 2, .null, sM Ln I L (c + 1) (s + 6))))))) : dd_Ev d m_X10_path [.ref 0, .int a1, .int a2] (sM Ln I L c s) Q := by
  obtain ⟨e, rfl⟩ : ∃ e, d = e + 16 := ⟨d - 16, by omega⟩
  show dd_Rn (e + 16) m_X10_path (0, [.ref 0, .int a1, .int a2], [], sM Ln I L c s) Q
  refine dd_Rn.sub 2 (pc := 2) (ls := [.ref 0, .int a1, .int a2]) (st := [.int a1, .ref 0]) (M := sM Ln I L c s) (x := m_X10_requireCell) (as := [.ref 0, .int a1]) (rest := []) rfl rfl rfl rfl ?_
  show dd_Rn (e + 15) m_X10_requireCell (0, [.ref 0, .int a1], [], sM Ln I L c s) _
  refine dd_Rn.ite 1 (c := a1 < 0) (A := (10, [.ref 0, .int a1], [], sM Ln I L c s)) (B := (4, [.ref 0, .int a1], [], sM Ln I L c s)) rfl (fun hc => ?_) (fun hc => ?_) (by omega)
  · have h := h.1 hc
    exact dd_Rn.throw 0 (pc := 10) (ls := [.ref 0, .int a1]) (st := []) (M := sM Ln I L c s) rfl rfl rfl (by omega) rfl (dd_Af.thr rfl rfl rfl h)
  · have h := h.2 hc
    refine dd_Rn.ite 2 (c := a1 < 64) (A := (20, [.ref 0, .int a1], [], sM Ln I L c s)) (B := (10, [.ref 0, .int a1], [], sM Ln I L c s)) rfl (fun hc => ?_) (fun hc => ?_) (by omega)
    · have h := h.1 hc
      refine dd_Rn.retK 0 (pc := 20) (ls := [.ref 0, .int a1]) (st := []) (M := sM Ln I L c s) (o := (none, .null, sM Ln I L c s)) rfl rfl (dd_Af.ret rfl ?_) (by omega)
      show dd_Rn (e + 16) m_X10_path (5, [.ref 0, .int a1, .int a2], [], sM Ln I L c s) _
      refine dd_Rn.sub 2 (pc := 7) (ls := [.ref 0, .int a1, .int a2]) (st := [.int a2, .ref 0]) (M := sM Ln I L c s) (x := m_X10_requireCell) (as := [.ref 0, .int a2]) (rest := []) rfl rfl rfl rfl ?_
      show dd_Rn (e + 15) m_X10_requireCell (0, [.ref 0, .int a2], [], sM Ln I L c s) _
      refine dd_Rn.ite 1 (c := a2 < 0) (A := (10, [.ref 0, .int a2], [], sM Ln I L c s)) (B := (4, [.ref 0, .int a2], [], sM Ln I L c s)) rfl (fun hc => ?_) (fun hc => ?_) (by omega)
      · have h := h.1 hc
        exact dd_Rn.throw 0 (pc := 10) (ls := [.ref 0, .int a2]) (st := []) (M := sM Ln I L c s) rfl rfl rfl (by omega) rfl (dd_Af.thr rfl rfl rfl h)
      · have h := h.2 hc
        refine dd_Rn.ite 2 (c := a2 < 64) (A := (20, [.ref 0, .int a2], [], sM Ln I L c s)) (B := (10, [.ref 0, .int a2], [], sM Ln I L c s)) rfl (fun hc => ?_) (fun hc => ?_) (by omega)
        · have h := h.1 hc
          refine dd_Rn.retK 0 (pc := 20) (ls := [.ref 0, .int a2]) (st := []) (M := sM Ln I L c s) (o := (none, .null, sM Ln I L c s)) rfl rfl (dd_Af.ret rfl ?_) (by omega)
          show dd_Rn (e + 16) m_X10_path (10, [.ref 0, .int a1, .int a2], [], sM Ln I L c s) _
          refine dd_Rn.cI 4 (pc := 16) (ls := [.ref 0, .int a1, .int a2]) (st := [.int a2, .int a1, .ref 139]) (x := m_X7_stepsBetween) (as := [.ref 139, .int a1, .int a2]) (rest := []) rfl rfl rfl rfl h ?_
          intro x1 I1 L1 h
          show dd_Rn (e + 16) m_X10_path (19, [.ref 0, .int a1, .int a2], [.int x1], sM Ln I1 L1 c s) _
          exact dd_Rn.retK 0 (pc := 19) (ls := [.ref 0, .int a1, .int a2]) (st := [.int x1]) (M := sM Ln I1 L1 c s) (o := (none, .int x1, sM Ln I1 L1 c s)) rfl rfl h (by omega)
        · have h := h.2 hc
          exact dd_Rn.throw 0 (pc := 10) (ls := [.ref 0, .int a2]) (st := []) (M := sM Ln I L c s) rfl rfl rfl (by omega) rfl (dd_Af.thr rfl rfl rfl h)
    · have h := h.2 hc
      exact dd_Rn.throw 0 (pc := 10) (ls := [.ref 0, .int a1]) (st := []) (M := sM Ln I L c s) rfl rfl rfl (by omega) rfl (dd_Af.thr rfl rfl rfl h)

theorem w_X10_soon_0 {Ln d c s : Nat} {I : Nat → Nat → Int32} {L : Nat → Nat → Int64} {Q : dd_O → Prop} {a1 : Int32} (hd : 28 ≤ d) (h : ((a1 < 0 → Q (some 2, .null, sM Ln I L (c + 1) (s + 6))) ∧ (¬ (a1 < 0) → ((a1 < I 1 10 → dd_Ev (d - 1) m_X6_follow [.ref 133, .int a1] (sM Ln I L c s) (dd_RV Ln c s (fun I1 L1 => dd_Ev (d - 1) m_X6_comesIn [.ref 133] (sM Ln I1 L1 c s) (dd_RI Ln c s (fun x2 I2 L2 => Q (none, .int x2, sM Ln I2 L2 c s)))))) ∧ (¬ (a1 < I 1 10) → Q (some 2, .null, sM Ln I L (c + 1) (s + 6))))))) : dd_Ev d m_X10_soon [.ref 0, .int a1] (sM Ln I L c s) Q := by
  obtain ⟨e, rfl⟩ : ∃ e, d = e + 16 := ⟨d - 16, by omega⟩
  show dd_Rn (e + 16) m_X10_soon (0, [.ref 0, .int a1], [], sM Ln I L c s) Q
  refine dd_Rn.sub 2 (pc := 2) (ls := [.ref 0, .int a1]) (st := [.int a1, .ref 0]) (M := sM Ln I L c s) (x := m_X10_requireBoy) (as := [.ref 0, .int a1]) (rest := []) rfl rfl rfl rfl ?_
  show dd_Rn (e + 15) m_X10_requireBoy (0, [.ref 0, .int a1], [], sM Ln I L c s) _
  refine dd_Rn.ite 1 (c := a1 < 0) (A := (15, [.ref 0, .int a1], [], sM Ln I L c s)) (B := (4, [.ref 0, .int a1], [], sM Ln I L c s)) rfl (fun hc => ?_) (fun hc => ?_) (by omega)
  · have h := h.1 hc
    exact dd_Rn.throw 0 (pc := 15) (ls := [.ref 0, .int a1]) (st := []) (M := sM Ln I L c s) rfl rfl rfl (by omega) rfl (dd_Af.thr rfl rfl rfl h)
  · have h := h.2 hc
    refine dd_Rn.ite 4 (c := a1 < I 1 10) (A := (25, [.ref 0, .int a1], [], sM Ln I L c s)) (B := (15, [.ref 0, .int a1], [], sM Ln I L c s)) rfl (fun hc => ?_) (fun hc => ?_) (by omega)
    · have h := h.1 hc
      refine dd_Rn.retK 0 (pc := 25) (ls := [.ref 0, .int a1]) (st := []) (M := sM Ln I L c s) (o := (none, .null, sM Ln I L c s)) rfl rfl (dd_Af.ret rfl ?_) (by omega)
      show dd_Rn (e + 16) m_X10_soon (5, [.ref 0, .int a1], [], sM Ln I L c s) _
      refine dd_Rn.cV 3 (pc := 10) (ls := [.ref 0, .int a1]) (st := [.int a1, .ref 133]) (x := m_X6_follow) (as := [.ref 133, .int a1]) (rest := []) rfl rfl rfl rfl h ?_
      intro I1 L1 h
      show dd_Rn (e + 16) m_X10_soon (13, [.ref 0, .int a1], [], sM Ln I1 L1 c s) _
      refine dd_Rn.cI 2 (pc := 17) (ls := [.ref 0, .int a1]) (st := [.ref 133]) (x := m_X6_comesIn) (as := [.ref 133]) (rest := []) rfl rfl rfl rfl h ?_
      intro x2 I2 L2 h
      show dd_Rn (e + 16) m_X10_soon (20, [.ref 0, .int a1], [.int x2], sM Ln I2 L2 c s) _
      exact dd_Rn.retK 0 (pc := 20) (ls := [.ref 0, .int a1]) (st := [.int x2]) (M := sM Ln I2 L2 c s) (o := (none, .int x2, sM Ln I2 L2 c s)) rfl rfl h (by omega)
    · have h := h.2 hc
      exact dd_Rn.throw 0 (pc := 15) (ls := [.ref 0, .int a1]) (st := []) (M := sM Ln I L c s) rfl rfl rfl (by omega) rfl (dd_Af.thr rfl rfl rfl h)

theorem w_X10_by_0 {Ln d c s : Nat} {I : Nat → Nat → Int32} {L : Nat → Nat → Int64} {Q : dd_O → Prop} {a1 a2 : Int32} (hd : 28 ≤ d) (h : ((a1 < 0 → Q (some 2, .null, sM Ln I L (c + 1) (s + 6))) ∧ (¬ (a1 < 0) → ((a1 < I 1 10 → ((a2 < 0 → Q (some 2, .null, sM Ln I L (c + 1) (s + 6))) ∧ (¬ (a2 < 0) → ((a2 < I 1 9 → dd_Ev (d - 1) m_X10_soonBy [.ref 0, .int a1, .int a2] (sM Ln I L c s) (dd_RI Ln c s (fun x1 I1 L1 => Q (none, .int x1, sM Ln I1 L1 c s)))) ∧ (¬ (a2 < I 1 9) → Q (some 2, .null, sM Ln I L (c + 1) (s + 6))))))) ∧ (¬ (a1 < I 1 10) → Q (some 2, .null, sM Ln I L (c + 1) (s + 6))))))) : dd_Ev d m_X10_by [.ref 0, .int a1, .int a2] (sM Ln I L c s) Q := by
  obtain ⟨e, rfl⟩ : ∃ e, d = e + 16 := ⟨d - 16, by omega⟩
  show dd_Rn (e + 16) m_X10_by (0, [.ref 0, .int a1, .int a2], [], sM Ln I L c s) Q
  refine dd_Rn.sub 2 (pc := 2) (ls := [.ref 0, .int a1, .int a2]) (st := [.int a1, .ref 0]) (M := sM Ln I L c s) (x := m_X10_requireBoy) (as := [.ref 0, .int a1]) (rest := []) rfl rfl rfl rfl ?_
  show dd_Rn (e + 15) m_X10_requireBoy (0, [.ref 0, .int a1], [], sM Ln I L c s) _
  refine dd_Rn.ite 1 (c := a1 < 0) (A := (15, [.ref 0, .int a1], [], sM Ln I L c s)) (B := (4, [.ref 0, .int a1], [], sM Ln I L c s)) rfl (fun hc => ?_) (fun hc => ?_) (by omega)
  · have h := h.1 hc
    exact dd_Rn.throw 0 (pc := 15) (ls := [.ref 0, .int a1]) (st := []) (M := sM Ln I L c s) rfl rfl rfl (by omega) rfl (dd_Af.thr rfl rfl rfl h)
  · have h := h.2 hc
    refine dd_Rn.ite 4 (c := a1 < I 1 10) (A := (25, [.ref 0, .int a1], [], sM Ln I L c s)) (B := (15, [.ref 0, .int a1], [], sM Ln I L c s)) rfl (fun hc => ?_) (fun hc => ?_) (by omega)
    · have h := h.1 hc
      refine dd_Rn.retK 0 (pc := 25) (ls := [.ref 0, .int a1]) (st := []) (M := sM Ln I L c s) (o := (none, .null, sM Ln I L c s)) rfl rfl (dd_Af.ret rfl ?_) (by omega)
      show dd_Rn (e + 16) m_X10_by (5, [.ref 0, .int a1, .int a2], [], sM Ln I L c s) _
      refine dd_Rn.sub 2 (pc := 7) (ls := [.ref 0, .int a1, .int a2]) (st := [.int a2, .ref 0]) (M := sM Ln I L c s) (x := m_X10_requirePart) (as := [.ref 0, .int a2]) (rest := []) rfl rfl rfl rfl ?_
      show dd_Rn (e + 15) m_X10_requirePart (0, [.ref 0, .int a2], [], sM Ln I L c s) _
      refine dd_Rn.ite 1 (c := a2 < 0) (A := (15, [.ref 0, .int a2], [], sM Ln I L c s)) (B := (4, [.ref 0, .int a2], [], sM Ln I L c s)) rfl (fun hc => ?_) (fun hc => ?_) (by omega)
      · have h := h.1 hc
        exact dd_Rn.throw 0 (pc := 15) (ls := [.ref 0, .int a2]) (st := []) (M := sM Ln I L c s) rfl rfl rfl (by omega) rfl (dd_Af.thr rfl rfl rfl h)
      · have h := h.2 hc
        refine dd_Rn.ite 4 (c := a2 < I 1 9) (A := (25, [.ref 0, .int a2], [], sM Ln I L c s)) (B := (15, [.ref 0, .int a2], [], sM Ln I L c s)) rfl (fun hc => ?_) (fun hc => ?_) (by omega)
        · have h := h.1 hc
          refine dd_Rn.retK 0 (pc := 25) (ls := [.ref 0, .int a2]) (st := []) (M := sM Ln I L c s) (o := (none, .null, sM Ln I L c s)) rfl rfl (dd_Af.ret rfl ?_) (by omega)
          show dd_Rn (e + 16) m_X10_by (10, [.ref 0, .int a1, .int a2], [], sM Ln I L c s) _
          refine dd_Rn.cI 3 (pc := 13) (ls := [.ref 0, .int a1, .int a2]) (st := [.int a2, .int a1, .ref 0]) (x := m_X10_soonBy) (as := [.ref 0, .int a1, .int a2]) (rest := []) rfl rfl rfl rfl h ?_
          intro x1 I1 L1 h
          show dd_Rn (e + 16) m_X10_by (16, [.ref 0, .int a1, .int a2], [.int x1], sM Ln I1 L1 c s) _
          exact dd_Rn.retK 0 (pc := 16) (ls := [.ref 0, .int a1, .int a2]) (st := [.int x1]) (M := sM Ln I1 L1 c s) (o := (none, .int x1, sM Ln I1 L1 c s)) rfl rfl h (by omega)
        · have h := h.2 hc
          exact dd_Rn.throw 0 (pc := 15) (ls := [.ref 0, .int a2]) (st := []) (M := sM Ln I L c s) rfl rfl rfl (by omega) rfl (dd_Af.thr rfl rfl rfl h)
    · have h := h.2 hc
      exact dd_Rn.throw 0 (pc := 15) (ls := [.ref 0, .int a1]) (st := []) (M := sM Ln I L c s) rfl rfl rfl (by omega) rfl (dd_Af.thr rfl rfl rfl h)

theorem w_X10_soonBy_0 {Ln d c s : Nat} {I : Nat → Nat → Int32} {L : Nat → Nat → Int64} {Q : dd_O → Prop} {a1 a2 : Int32} (hd : 28 ≤ d) (h : dd_Ev (d - 1) m_X6_follow [.ref 133, .int a1] (sM Ln I L c s) (dd_RV Ln c s (fun I1 L1 => dd_Ev (d - 1) m_X6_takePart [.ref 133, .int a2] (sM Ln I1 L1 c s) (dd_RV Ln c s (fun I2 L2 => dd_Ev (d - 1) m_X6_comesIn [.ref 133] (sM Ln I2 L2 c s) (dd_RI Ln c s (fun x3 I3 L3 => Q (none, .int x3, sM Ln I3 L3 c s)))))))) : dd_Ev d m_X10_soonBy [.ref 0, .int a1, .int a2] (sM Ln I L c s) Q := by
  obtain ⟨e, rfl⟩ : ∃ e, d = e + 16 := ⟨d - 16, by omega⟩
  show dd_Rn (e + 16) m_X10_soonBy (0, [.ref 0, .int a1, .int a2], [], sM Ln I L c s) Q
  refine dd_Rn.cV 3 (pc := 5) (ls := [.ref 0, .int a1, .int a2]) (st := [.int a1, .ref 133]) (x := m_X6_follow) (as := [.ref 133, .int a1]) (rest := []) rfl rfl rfl rfl h ?_
  intro I1 L1 h
  show dd_Rn (e + 16) m_X10_soonBy (8, [.ref 0, .int a1, .int a2], [], sM Ln I1 L1 c s) _
  refine dd_Rn.cV 3 (pc := 13) (ls := [.ref 0, .int a1, .int a2]) (st := [.int a2, .ref 133]) (x := m_X6_takePart) (as := [.ref 133, .int a2]) (rest := []) rfl rfl rfl rfl h ?_
  intro I2 L2 h
  show dd_Rn (e + 16) m_X10_soonBy (16, [.ref 0, .int a1, .int a2], [], sM Ln I2 L2 c s) _
  refine dd_Rn.cI 2 (pc := 20) (ls := [.ref 0, .int a1, .int a2]) (st := [.ref 133]) (x := m_X6_comesIn) (as := [.ref 133]) (rest := []) rfl rfl rfl rfl h ?_
  intro x3 I3 L3 h
  show dd_Rn (e + 16) m_X10_soonBy (23, [.ref 0, .int a1, .int a2], [.int x3], sM Ln I3 L3 c s) _
  exact dd_Rn.retK 0 (pc := 23) (ls := [.ref 0, .int a1, .int a2]) (st := [.int x3]) (M := sM Ln I3 L3 c s) (o := (none, .int x3, sM Ln I3 L3 c s)) rfl rfl h (by omega)

theorem w_X10_best_0 {Ln d c s : Nat} {I : Nat → Nat → Int32} {L : Nat → Nat → Int64} {Q : dd_O → Prop} {a1 : Int32} (hd : 28 ≤ d) (h : ((a1 < 0 → Q (some 2, .null, sM Ln I L (c + 1) (s + 6))) ∧ (¬ (a1 < 0) → ((a1 < I 1 10 → dd_Rn d m_X10_best (13, [.ref 0, .int a1, .int (-1), .int 101, .int 0, .null], [], sM Ln I L c s) Q) ∧ (¬ (a1 < I 1 10) → Q (some 2, .null, sM Ln I L (c + 1) (s + 6))))))) : dd_Ev d m_X10_best [.ref 0, .int a1] (sM Ln I L c s) Q := by
  obtain ⟨e, rfl⟩ : ∃ e, d = e + 16 := ⟨d - 16, by omega⟩
  show dd_Rn (e + 16) m_X10_best (0, [.ref 0, .int a1, .null, .null, .null, .null], [], sM Ln I L c s) Q
  refine dd_Rn.sub 2 (pc := 2) (ls := [.ref 0, .int a1, .null, .null, .null, .null]) (st := [.int a1, .ref 0]) (M := sM Ln I L c s) (x := m_X10_requireBoy) (as := [.ref 0, .int a1]) (rest := []) rfl rfl rfl rfl ?_
  show dd_Rn (e + 15) m_X10_requireBoy (0, [.ref 0, .int a1], [], sM Ln I L c s) _
  refine dd_Rn.ite 1 (c := a1 < 0) (A := (15, [.ref 0, .int a1], [], sM Ln I L c s)) (B := (4, [.ref 0, .int a1], [], sM Ln I L c s)) rfl (fun hc => ?_) (fun hc => ?_) (by omega)
  · have h := h.1 hc
    exact dd_Rn.throw 0 (pc := 15) (ls := [.ref 0, .int a1]) (st := []) (M := sM Ln I L c s) rfl rfl rfl (by omega) rfl (dd_Af.thr rfl rfl rfl h)
  · have h := h.2 hc
    refine dd_Rn.ite 4 (c := a1 < I 1 10) (A := (25, [.ref 0, .int a1], [], sM Ln I L c s)) (B := (15, [.ref 0, .int a1], [], sM Ln I L c s)) rfl (fun hc => ?_) (fun hc => ?_) (by omega)
    · have h := h.1 hc
      refine dd_Rn.retK 0 (pc := 25) (ls := [.ref 0, .int a1]) (st := []) (M := sM Ln I L c s) (o := (none, .null, sM Ln I L c s)) rfl rfl (dd_Af.ret rfl ?_) (by omega)
      show dd_Rn (e + 16) m_X10_best (5, [.ref 0, .int a1, .null, .null, .null, .null], [], sM Ln I L c s) _
      exact dd_Rn.go 6 (cf' := (13, [.ref 0, .int a1, .int (-1), .int 101, .int 0, .null], [], sM Ln I L c s)) rfl h (by omega)
    · have h := h.2 hc
      exact dd_Rn.throw 0 (pc := 15) (ls := [.ref 0, .int a1]) (st := []) (M := sM Ln I L c s) rfl rfl rfl (by omega) rfl (dd_Af.thr rfl rfl rfl h)

theorem w_X10_best_13 {Ln d c s : Nat} {I : Nat → Nat → Int32} {L : Nat → Nat → Int64} {Q : dd_O → Prop} {a1 a2 a3 a4 : Int32} {a5 : Value} (hd : 28 ≤ d) (h : ((I 1 9 ≤ a4 → Q (none, .int a2, sM Ln I L c s)) ∧ (¬ (I 1 9 ≤ a4) → dd_Ev (d - 1) m_X10_soonBy [.ref 0, .int a1, .int a4] (sM Ln I L c s) (dd_RI Ln c s (fun x1 I1 L1 => ((x1 = (-1) → dd_Rn d m_X10_best (13, [.ref 0, .int a1, .int a2, .int a3, .int (a4 + 1), .int x1], [], sM Ln I1 L1 c s) Q) ∧ (¬ (x1 = (-1)) → ((a3 ≤ x1 → dd_Rn d m_X10_best (13, [.ref 0, .int a1, .int a2, .int a3, .int (a4 + 1), .int x1], [], sM Ln I1 L1 c s) Q) ∧ (¬ (a3 ≤ x1) → dd_Rn d m_X10_best (13, [.ref 0, .int a1, .int a4, .int x1, .int (a4 + 1), .int x1], [], sM Ln I1 L1 c s) Q))))))))) : dd_Rn d m_X10_best (13, [.ref 0, .int a1, .int a2, .int a3, .int a4, a5], [], sM Ln I L c s) Q := by
  obtain ⟨e, rfl⟩ : ∃ e, d = e + 16 := ⟨d - 16, by omega⟩
  refine dd_Rn.ite 4 (c := I 1 9 ≤ a4) (A := (58, [.ref 0, .int a1, .int a2, .int a3, .int a4, a5], [], sM Ln I L c s)) (B := (25, [.ref 0, .int a1, .int a2, .int a3, .int a4, a5], [], sM Ln I L c s)) rfl (fun hc => ?_) (fun hc => ?_) (by omega)
  · have h := h.1 hc
    exact dd_Rn.retK 1 (pc := 59) (ls := [.ref 0, .int a1, .int a2, .int a3, .int a4, a5]) (st := [.int a2]) (M := sM Ln I L c s) (o := (none, .int a2, sM Ln I L c s)) rfl rfl h (by omega)
  · have h := h.2 hc
    refine dd_Rn.cI 3 (pc := 29) (ls := [.ref 0, .int a1, .int a2, .int a3, .int a4, a5]) (st := [.int a4, .int a1, .ref 0]) (x := m_X10_soonBy) (as := [.ref 0, .int a1, .int a4]) (rest := []) rfl rfl rfl rfl h ?_
    intro x1 I1 L1 h
    show dd_Rn (e + 16) m_X10_best (32, [.ref 0, .int a1, .int a2, .int a3, .int a4, a5], [.int x1], sM Ln I1 L1 c s) _
    refine dd_Rn.ite 3 (c := x1 = (-1)) (A := (52, [.ref 0, .int a1, .int a2, .int a3, .int a4, .int x1], [], sM Ln I1 L1 c s)) (B := (40, [.ref 0, .int a1, .int a2, .int a3, .int a4, .int x1], [], sM Ln I1 L1 c s)) rfl (fun hc => ?_) (fun hc => ?_) (by omega)
    · have h := h.1 hc
      exact dd_Rn.go 2 (cf' := (13, [.ref 0, .int a1, .int a2, .int a3, .int (a4 + 1), .int x1], [], sM Ln I1 L1 c s)) rfl h (by omega)
    · have h := h.2 hc
      refine dd_Rn.ite 2 (c := a3 ≤ x1) (A := (52, [.ref 0, .int a1, .int a2, .int a3, .int a4, .int x1], [], sM Ln I1 L1 c s)) (B := (46, [.ref 0, .int a1, .int a2, .int a3, .int a4, .int x1], [], sM Ln I1 L1 c s)) rfl (fun hc => ?_) (fun hc => ?_) (by omega)
      · have h := h.1 hc
        exact dd_Rn.go 2 (cf' := (13, [.ref 0, .int a1, .int a2, .int a3, .int (a4 + 1), .int x1], [], sM Ln I1 L1 c s)) rfl h (by omega)
      · have h := h.2 hc
        exact dd_Rn.go 6 (cf' := (13, [.ref 0, .int a1, .int a4, .int x1, .int (a4 + 1), .int x1], [], sM Ln I1 L1 c s)) rfl h (by omega)

theorem w_X10_all_0 {Ln d c s : Nat} {I : Nat → Nat → Int32} {L : Nat → Nat → Int64} {Q : dd_O → Prop} (hd : 28 ≤ d) (h : dd_Ev (d - 1) m_X10_allInWith [.ref 0, .int (I 1 14)] (sM Ln I L c s) (dd_RI Ln c s (fun x1 I1 L1 => Q (none, .int x1, sM Ln I1 L1 c s)))) : dd_Ev d m_X10_all [.ref 0] (sM Ln I L c s) Q := by
  obtain ⟨e, rfl⟩ : ∃ e, d = e + 16 := ⟨d - 16, by omega⟩
  show dd_Rn (e + 16) m_X10_all (0, [.ref 0], [], sM Ln I L c s) Q
  refine dd_Rn.cI 4 (pc := 8) (ls := [.ref 0]) (st := [.int (I 1 14), .ref 0]) (x := m_X10_allInWith) (as := [.ref 0, .int (I 1 14)]) (rest := []) rfl rfl rfl rfl h ?_
  intro x1 I1 L1 h
  show dd_Rn (e + 16) m_X10_all (11, [.ref 0], [.int x1], sM Ln I1 L1 c s) _
  exact dd_Rn.retK 0 (pc := 11) (ls := [.ref 0]) (st := [.int x1]) (M := sM Ln I1 L1 c s) (o := (none, .int x1, sM Ln I1 L1 c s)) rfl rfl h (by omega)

theorem w_X10_allInWith_0 {Ln d c s : Nat} {I : Nat → Nat → Int32} {L : Nat → Nat → Int64} {Q : dd_O → Prop} {a1 : Int32} (hd : 28 ≤ d) (h : dd_Rn d m_X10_allInWith (4, [.ref 0, .int a1, .int 0, .int 0, .null], [], sM Ln I L c s) Q) : dd_Ev d m_X10_allInWith [.ref 0, .int a1] (sM Ln I L c s) Q := by
  obtain ⟨e, rfl⟩ : ∃ e, d = e + 16 := ⟨d - 16, by omega⟩
  show dd_Rn (e + 16) m_X10_allInWith (0, [.ref 0, .int a1, .null, .null, .null], [], sM Ln I L c s) Q
  exact dd_Rn.go 4 (cf' := (4, [.ref 0, .int a1, .int 0, .int 0, .null], [], sM Ln I L c s)) rfl h (by omega)

theorem w_X10_allInWith_4 {Ln d c s : Nat} {I : Nat → Nat → Int32} {L : Nat → Nat → Int64} {Q : dd_O → Prop} {a1 a2 a3 : Int32} {a4 : Value} (hd : 28 ≤ d) (h : ((I 1 10 ≤ a3 → Q (none, .int a2, sM Ln I L c s)) ∧ (¬ (I 1 10 ≤ a3) → dd_Ev (d - 1) m_X6_follow [.ref 133, .int a3] (sM Ln I L c s) (dd_RV Ln c s (fun I1 L1 => dd_Ev (d - 1) m_X6_comesIn [.ref 133] (sM Ln (dd_u I1 133 (upd (I1 133) 5 a1)) L1 c s) (dd_RI Ln c s (fun x2 I2 L2 => ((x2 = (-1) → Q (none, .int (-1), sM Ln I2 L2 c s)) ∧ (¬ (x2 = (-1)) → dd_Rn d m_X10_allInWith (4, [.ref 0, .int a1, .int (if a2 < x2 then x2 else a2), .int (a3 + 1), .int x2], [], sM Ln I2 L2 c s) Q))))))))) : dd_Rn d m_X10_allInWith (4, [.ref 0, .int a1, .int a2, .int a3, a4], [], sM Ln I L c s) Q := by
  obtain ⟨e, rfl⟩ : ∃ e, d = e + 16 := ⟨d - 16, by omega⟩
  refine dd_Rn.ite 4 (c := I 1 10 ≤ a3) (A := (61, [.ref 0, .int a1, .int a2, .int a3, a4], [], sM Ln I L c s)) (B := (15, [.ref 0, .int a1, .int a2, .int a3, a4], [], sM Ln I L c s)) rfl (fun hc => ?_) (fun hc => ?_) (by omega)
  · have h := h.1 hc
    exact dd_Rn.retK 1 (pc := 62) (ls := [.ref 0, .int a1, .int a2, .int a3, a4]) (st := [.int a2]) (M := sM Ln I L c s) (o := (none, .int a2, sM Ln I L c s)) rfl rfl h (by omega)
  · have h := h.2 hc
    refine dd_Rn.cV 3 (pc := 20) (ls := [.ref 0, .int a1, .int a2, .int a3, a4]) (st := [.int a3, .ref 133]) (x := m_X6_follow) (as := [.ref 133, .int a3]) (rest := []) rfl rfl rfl rfl h ?_
    intro I1 L1 h
    show dd_Rn (e + 16) m_X10_allInWith (23, [.ref 0, .int a1, .int a2, .int a3, a4], [], sM Ln I1 L1 c s) _
    refine dd_Rn.cI 6 (pc := 35) (ls := [.ref 0, .int a1, .int a2, .int a3, a4]) (st := [.ref 133]) (x := m_X6_comesIn) (as := [.ref 133]) (rest := []) rfl rfl rfl rfl h ?_
    intro x2 I2 L2 h
    show dd_Rn (e + 16) m_X10_allInWith (38, [.ref 0, .int a1, .int a2, .int a3, a4], [.int x2], sM Ln I2 L2 c s) _
    refine dd_Rn.ite 3 (c := x2 = (-1)) (A := (46, [.ref 0, .int a1, .int a2, .int a3, .int x2], [], sM Ln I2 L2 c s)) (B := (48, [.ref 0, .int a1, .int a2, .int a3, .int x2], [], sM Ln I2 L2 c s)) rfl (fun hc => ?_) (fun hc => ?_) (by omega)
    · have h := h.1 hc
      exact dd_Rn.retK 1 (pc := 47) (ls := [.ref 0, .int a1, .int a2, .int a3, .int x2]) (st := [.int (-1)]) (M := sM Ln I2 L2 c s) (o := (none, .int (-1), sM Ln I2 L2 c s)) rfl rfl h (by omega)
    · have h := h.2 hc
      exact dd_Rn.go 6 (cf' := (4, [.ref 0, .int a1, .int (if a2 < x2 then x2 else a2), .int (a3 + 1), .int x2], [], sM Ln I2 L2 c s)) rfl h (by omega)

theorem w_X10_should_0 {Ln d c s : Nat} {I : Nat → Nat → Int32} {L : Nat → Nat → Int64} {Q : dd_O → Prop} (hd : 28 ≤ d) (h : dd_Ev (d - 1) m_X7_leastTogether [.ref 139] (sM Ln I L c s) (dd_RI Ln c s (fun x1 I1 L1 => Q (none, .int x1, sM Ln I1 L1 c s)))) : dd_Ev d m_X10_should [.ref 0] (sM Ln I L c s) Q := by
  obtain ⟨e, rfl⟩ : ∃ e, d = e + 16 := ⟨d - 16, by omega⟩
  show dd_Rn (e + 16) m_X10_should (0, [.ref 0], [], sM Ln I L c s) Q
  refine dd_Rn.cI 2 (pc := 4) (ls := [.ref 0]) (st := [.ref 139]) (x := m_X7_leastTogether) (as := [.ref 139]) (rest := []) rfl rfl rfl rfl h ?_
  intro x1 I1 L1 h
  show dd_Rn (e + 16) m_X10_should (7, [.ref 0], [.int x1], sM Ln I1 L1 c s) _
  exact dd_Rn.retK 0 (pc := 7) (ls := [.ref 0]) (st := [.int x1]) (M := sM Ln I1 L1 c s) (o := (none, .int x1, sM Ln I1 L1 c s)) rfl rfl h (by omega)

theorem w_X10_calls_0 {Ln d c s : Nat} {I : Nat → Nat → Int32} {L : Nat → Nat → Int64} {Q : dd_O → Prop} {a1 : Int32} (hd : 28 ≤ d) (h : ((a1 < 0 → Q (some 2, .null, sM Ln I L (c + 1) (s + 6))) ∧ (¬ (a1 < 0) → ((a1 < I 1 10 → dd_Ev (d - 1) m_X1_thinkFor [.ref 141, .int a1] (sM Ln I L c s) (dd_RV Ln c s (fun I1 L1 => ((0 ≤ a1 ∧ tn a1 < 6) ∧ dd_Ev (d - 1) m_X1_fewest [.ref 141, .int (I1 4 (tn a1)), .int 0, .int 64] (sM Ln I1 L1 c s) (dd_RI Ln c s (fun x2 I2 L2 => Q (none, .int x2, sM Ln I2 L2 c s))))))) ∧ (¬ (a1 < I 1 10) → Q (some 2, .null, sM Ln I L (c + 1) (s + 6))))))) : dd_Ev d m_X10_calls [.ref 0, .int a1] (sM Ln I L c s) Q := by
  obtain ⟨e, rfl⟩ : ∃ e, d = e + 16 := ⟨d - 16, by omega⟩
  show dd_Rn (e + 16) m_X10_calls (0, [.ref 0, .int a1], [], sM Ln I L c s) Q
  refine dd_Rn.sub 2 (pc := 2) (ls := [.ref 0, .int a1]) (st := [.int a1, .ref 0]) (M := sM Ln I L c s) (x := m_X10_requireBoy) (as := [.ref 0, .int a1]) (rest := []) rfl rfl rfl rfl ?_
  show dd_Rn (e + 15) m_X10_requireBoy (0, [.ref 0, .int a1], [], sM Ln I L c s) _
  refine dd_Rn.ite 1 (c := a1 < 0) (A := (15, [.ref 0, .int a1], [], sM Ln I L c s)) (B := (4, [.ref 0, .int a1], [], sM Ln I L c s)) rfl (fun hc => ?_) (fun hc => ?_) (by omega)
  · have h := h.1 hc
    exact dd_Rn.throw 0 (pc := 15) (ls := [.ref 0, .int a1]) (st := []) (M := sM Ln I L c s) rfl rfl rfl (by omega) rfl (dd_Af.thr rfl rfl rfl h)
  · have h := h.2 hc
    refine dd_Rn.ite 4 (c := a1 < I 1 10) (A := (25, [.ref 0, .int a1], [], sM Ln I L c s)) (B := (15, [.ref 0, .int a1], [], sM Ln I L c s)) rfl (fun hc => ?_) (fun hc => ?_) (by omega)
    · have h := h.1 hc
      refine dd_Rn.retK 0 (pc := 25) (ls := [.ref 0, .int a1]) (st := []) (M := sM Ln I L c s) (o := (none, .null, sM Ln I L c s)) rfl rfl (dd_Af.ret rfl ?_) (by omega)
      show dd_Rn (e + 16) m_X10_calls (5, [.ref 0, .int a1], [], sM Ln I L c s) _
      refine dd_Rn.cV 3 (pc := 10) (ls := [.ref 0, .int a1]) (st := [.int a1, .ref 141]) (x := m_X1_thinkFor) (as := [.ref 141, .int a1]) (rest := []) rfl rfl rfl rfl h ?_
      intro I1 L1 h
      show dd_Rn (e + 16) m_X10_calls (13, [.ref 0, .int a1], [], sM Ln I1 L1 c s) _
      obtain ⟨hc, h⟩ := h
      refine dd_Rn.chk 6 (c := 0 ≤ a1 ∧ tn a1 < 6) (A := (26, [.ref 0, .int a1], [.int (I1 4 (tn a1)), .ref 141], sM Ln I1 L1 c s)) rfl hc ?_ (by omega)
      refine dd_Rn.cI 2 (pc := 29) (ls := [.ref 0, .int a1]) (st := [.int 64, .int 0, .int (I1 4 (tn a1)), .ref 141]) (x := m_X1_fewest) (as := [.ref 141, .int (I1 4 (tn a1)), .int 0, .int 64]) (rest := []) rfl rfl rfl rfl h ?_
      intro x2 I2 L2 h
      show dd_Rn (e + 16) m_X10_calls (32, [.ref 0, .int a1], [.int x2], sM Ln I2 L2 c s) _
      exact dd_Rn.retK 0 (pc := 32) (ls := [.ref 0, .int a1]) (st := [.int x2]) (M := sM Ln I2 L2 c s) (o := (none, .int x2, sM Ln I2 L2 c s)) rfl rfl h (by omega)
    · have h := h.2 hc
      exact dd_Rn.throw 0 (pc := 15) (ls := [.ref 0, .int a1]) (st := []) (M := sM Ln I L c s) rfl rfl rfl (by omega) rfl (dd_Af.thr rfl rfl rfl h)

theorem w_X10_first_0 {Ln d c s : Nat} {I : Nat → Nat → Int32} {L : Nat → Nat → Int64} {Q : dd_O → Prop} {a1 : Int32} (hd : 28 ≤ d) (h : ((a1 < 0 → Q (some 2, .null, sM Ln I L (c + 1) (s + 6))) ∧ (¬ (a1 < 0) → ((a1 < I 1 10 → dd_Ev (d - 1) m_X8_isIn [.ref 1, .int a1] (sM Ln I L c s) (dd_RI Ln c s (fun x1 I1 L1 => ((x1 = 0 → dd_Ev (d - 1) m_X1_leastFirst [.ref 141, .int a1] (sM Ln I1 L1 c s) (dd_RI Ln c s (fun x2 I2 L2 => Q (none, .int x2, sM Ln I2 L2 c s)))) ∧ (¬ (x1 = 0) → Q (none, .int (-1), sM Ln I1 L1 c s)))))) ∧ (¬ (a1 < I 1 10) → Q (some 2, .null, sM Ln I L (c + 1) (s + 6))))))) : dd_Ev d m_X10_first [.ref 0, .int a1] (sM Ln I L c s) Q := by
  obtain ⟨e, rfl⟩ : ∃ e, d = e + 16 := ⟨d - 16, by omega⟩
  show dd_Rn (e + 16) m_X10_first (0, [.ref 0, .int a1], [], sM Ln I L c s) Q
  refine dd_Rn.sub 2 (pc := 2) (ls := [.ref 0, .int a1]) (st := [.int a1, .ref 0]) (M := sM Ln I L c s) (x := m_X10_requireBoy) (as := [.ref 0, .int a1]) (rest := []) rfl rfl rfl rfl ?_
  show dd_Rn (e + 15) m_X10_requireBoy (0, [.ref 0, .int a1], [], sM Ln I L c s) _
  refine dd_Rn.ite 1 (c := a1 < 0) (A := (15, [.ref 0, .int a1], [], sM Ln I L c s)) (B := (4, [.ref 0, .int a1], [], sM Ln I L c s)) rfl (fun hc => ?_) (fun hc => ?_) (by omega)
  · have h := h.1 hc
    exact dd_Rn.throw 0 (pc := 15) (ls := [.ref 0, .int a1]) (st := []) (M := sM Ln I L c s) rfl rfl rfl (by omega) rfl (dd_Af.thr rfl rfl rfl h)
  · have h := h.2 hc
    refine dd_Rn.ite 4 (c := a1 < I 1 10) (A := (25, [.ref 0, .int a1], [], sM Ln I L c s)) (B := (15, [.ref 0, .int a1], [], sM Ln I L c s)) rfl (fun hc => ?_) (fun hc => ?_) (by omega)
    · have h := h.1 hc
      refine dd_Rn.retK 0 (pc := 25) (ls := [.ref 0, .int a1]) (st := []) (M := sM Ln I L c s) (o := (none, .null, sM Ln I L c s)) rfl rfl (dd_Af.ret rfl ?_) (by omega)
      show dd_Rn (e + 16) m_X10_first (5, [.ref 0, .int a1], [], sM Ln I L c s) _
      refine dd_Rn.cI 3 (pc := 10) (ls := [.ref 0, .int a1]) (st := [.int a1, .ref 1]) (x := m_X8_isIn) (as := [.ref 1, .int a1]) (rest := []) rfl rfl rfl rfl h ?_
      intro x1 I1 L1 h
      show dd_Rn (e + 16) m_X10_first (13, [.ref 0, .int a1], [.int x1], sM Ln I1 L1 c s) _
      refine dd_Rn.ite 0 (c := x1 = 0) (A := (20, [.ref 0, .int a1], [], sM Ln I1 L1 c s)) (B := (16, [.ref 0, .int a1], [], sM Ln I1 L1 c s)) rfl (fun hc => ?_) (fun hc => ?_) (by omega)
      · have h := h.1 hc
        refine dd_Rn.cI 3 (pc := 25) (ls := [.ref 0, .int a1]) (st := [.int a1, .ref 141]) (x := m_X1_leastFirst) (as := [.ref 141, .int a1]) (rest := []) rfl rfl rfl rfl h ?_
        intro x2 I2 L2 h
        show dd_Rn (e + 16) m_X10_first (28, [.ref 0, .int a1], [.int x2], sM Ln I2 L2 c s) _
        exact dd_Rn.retK 0 (pc := 28) (ls := [.ref 0, .int a1]) (st := [.int x2]) (M := sM Ln I2 L2 c s) (o := (none, .int x2, sM Ln I2 L2 c s)) rfl rfl h (by omega)
      · have h := h.2 hc
        exact dd_Rn.retK 2 (pc := 28) (ls := [.ref 0, .int a1]) (st := [.int (-1)]) (M := sM Ln I1 L1 c s) (o := (none, .int (-1), sM Ln I1 L1 c s)) rfl rfl h (by omega)
    · have h := h.2 hc
      exact dd_Rn.throw 0 (pc := 15) (ls := [.ref 0, .int a1]) (st := []) (M := sM Ln I L c s) rfl rfl rfl (by omega) rfl (dd_Af.thr rfl rfl rfl h)

theorem w_X10_can_0 {Ln d c s : Nat} {I : Nat → Nat → Int32} {L : Nat → Nat → Int64} {Q : dd_O → Prop} {a1 a2 : Int32} (hd : 28 ≤ d) (h : ((a1 < 0 → Q (some 2, .null, sM Ln I L (c + 1) (s + 6))) ∧ (¬ (a1 < 0) → ((a1 < I 1 10 → ((a2 < 0 → Q (some 0, .null, sM Ln I L (c + 1) (s + 6))) ∧ (¬ (a2 < 0) → ((a2 ≤ 16 → dd_Ev (d - 1) m_X1_thinkFor [.ref 141, .int a1] (sM Ln I L c s) (dd_RV Ln c s (fun I1 L1 => ((0 ≤ a1 ∧ tn a1 < 6) ∧ dd_Ev (d - 1) m_X1_reachedIn [.ref 141, .int (I1 4 (tn a1)), .int a2] (sM Ln I1 L1 c s) (dd_RI Ln c s (fun x2 I2 L2 => Q (none, .int x2, sM Ln I2 L2 c s))))))) ∧ (¬ (a2 ≤ 16) → Q (some 0, .null, sM Ln I L (c + 1) (s + 6))))))) ∧ (¬ (a1 < I 1 10) → Q (some 2, .null, sM Ln I L (c + 1) (s + 6))))))) : dd_Ev d m_X10_can [.ref 0, .int a1, .int a2] (sM Ln I L c s) Q := by
  obtain ⟨e, rfl⟩ : ∃ e, d = e + 16 := ⟨d - 16, by omega⟩
  show dd_Rn (e + 16) m_X10_can (0, [.ref 0, .int a1, .int a2], [], sM Ln I L c s) Q
  refine dd_Rn.sub 2 (pc := 2) (ls := [.ref 0, .int a1, .int a2]) (st := [.int a1, .ref 0]) (M := sM Ln I L c s) (x := m_X10_requireBoy) (as := [.ref 0, .int a1]) (rest := []) rfl rfl rfl rfl ?_
  show dd_Rn (e + 15) m_X10_requireBoy (0, [.ref 0, .int a1], [], sM Ln I L c s) _
  refine dd_Rn.ite 1 (c := a1 < 0) (A := (15, [.ref 0, .int a1], [], sM Ln I L c s)) (B := (4, [.ref 0, .int a1], [], sM Ln I L c s)) rfl (fun hc => ?_) (fun hc => ?_) (by omega)
  · have h := h.1 hc
    exact dd_Rn.throw 0 (pc := 15) (ls := [.ref 0, .int a1]) (st := []) (M := sM Ln I L c s) rfl rfl rfl (by omega) rfl (dd_Af.thr rfl rfl rfl h)
  · have h := h.2 hc
    refine dd_Rn.ite 4 (c := a1 < I 1 10) (A := (25, [.ref 0, .int a1], [], sM Ln I L c s)) (B := (15, [.ref 0, .int a1], [], sM Ln I L c s)) rfl (fun hc => ?_) (fun hc => ?_) (by omega)
    · have h := h.1 hc
      refine dd_Rn.retK 0 (pc := 25) (ls := [.ref 0, .int a1]) (st := []) (M := sM Ln I L c s) (o := (none, .null, sM Ln I L c s)) rfl rfl (dd_Af.ret rfl ?_) (by omega)
      show dd_Rn (e + 16) m_X10_can (5, [.ref 0, .int a1, .int a2], [], sM Ln I L c s) _
      refine dd_Rn.sub 4 (pc := 10) (ls := [.ref 0, .int a1, .int a2]) (st := [.int 16, .int 0, .int a2, .ref 0]) (M := sM Ln I L c s) (x := m_X10_requireNumber) (as := [.ref 0, .int a2, .int 0, .int 16]) (rest := []) rfl rfl rfl rfl ?_
      show dd_Rn (e + 15) m_X10_requireNumber (0, [.ref 0, .int a2, .int 0, .int 16], [], sM Ln I L c s) _
      refine dd_Rn.ite 2 (c := a2 < 0) (A := (10, [.ref 0, .int a2, .int 0, .int 16], [], sM Ln I L c s)) (B := (5, [.ref 0, .int a2, .int 0, .int 16], [], sM Ln I L c s)) rfl (fun hc => ?_) (fun hc => ?_) (by omega)
      · have h := h.1 hc
        exact dd_Rn.throw 0 (pc := 10) (ls := [.ref 0, .int a2, .int 0, .int 16]) (st := []) (M := sM Ln I L c s) rfl rfl rfl (by omega) rfl (dd_Af.thr rfl rfl rfl h)
      · have h := h.2 hc
        refine dd_Rn.ite 2 (c := a2 ≤ 16) (A := (20, [.ref 0, .int a2, .int 0, .int 16], [], sM Ln I L c s)) (B := (10, [.ref 0, .int a2, .int 0, .int 16], [], sM Ln I L c s)) rfl (fun hc => ?_) (fun hc => ?_) (by omega)
        · have h := h.1 hc
          refine dd_Rn.retK 0 (pc := 20) (ls := [.ref 0, .int a2, .int 0, .int 16]) (st := []) (M := sM Ln I L c s) (o := (none, .null, sM Ln I L c s)) rfl rfl (dd_Af.ret rfl ?_) (by omega)
          show dd_Rn (e + 16) m_X10_can (13, [.ref 0, .int a1, .int a2], [], sM Ln I L c s) _
          refine dd_Rn.cV 3 (pc := 18) (ls := [.ref 0, .int a1, .int a2]) (st := [.int a1, .ref 141]) (x := m_X1_thinkFor) (as := [.ref 141, .int a1]) (rest := []) rfl rfl rfl rfl h ?_
          intro I1 L1 h
          show dd_Rn (e + 16) m_X10_can (21, [.ref 0, .int a1, .int a2], [], sM Ln I1 L1 c s) _
          obtain ⟨hc, h⟩ := h
          refine dd_Rn.chk 6 (c := 0 ≤ a1 ∧ tn a1 < 6) (A := (34, [.ref 0, .int a1, .int a2], [.int (I1 4 (tn a1)), .ref 141], sM Ln I1 L1 c s)) rfl hc ?_ (by omega)
          refine dd_Rn.cI 1 (pc := 35) (ls := [.ref 0, .int a1, .int a2]) (st := [.int a2, .int (I1 4 (tn a1)), .ref 141]) (x := m_X1_reachedIn) (as := [.ref 141, .int (I1 4 (tn a1)), .int a2]) (rest := []) rfl rfl rfl rfl h ?_
          intro x2 I2 L2 h
          show dd_Rn (e + 16) m_X10_can (38, [.ref 0, .int a1, .int a2], [.int x2], sM Ln I2 L2 c s) _
          exact dd_Rn.retK 0 (pc := 38) (ls := [.ref 0, .int a1, .int a2]) (st := [.int x2]) (M := sM Ln I2 L2 c s) (o := (none, .int x2, sM Ln I2 L2 c s)) rfl rfl h (by omega)
        · have h := h.2 hc
          exact dd_Rn.throw 0 (pc := 10) (ls := [.ref 0, .int a2, .int 0, .int 16]) (st := []) (M := sM Ln I L c s) rfl rfl rfl (by omega) rfl (dd_Af.thr rfl rfl rfl h)
    · have h := h.2 hc
      exact dd_Rn.throw 0 (pc := 15) (ls := [.ref 0, .int a1]) (st := []) (M := sM Ln I L c s) rfl rfl rfl (by omega) rfl (dd_Af.thr rfl rfl rfl h)

theorem w_X10_lost_0 {Ln d c s : Nat} {I : Nat → Nat → Int32} {L : Nat → Nat → Int64} {Q : dd_O → Prop} {a1 a2 : Int32} (hd : 28 ≤ d) (h : ((a1 < 0 → Q (some 2, .null, sM Ln I L (c + 1) (s + 6))) ∧ (¬ (a1 < 0) → ((a1 < I 1 9 → ((a2 < 0 → Q (some 0, .null, sM Ln I L (c + 1) (s + 6))) ∧ (¬ (a2 < 0) → ((a2 ≤ 15 → dd_Rn d m_X10_lost (21, [.ref 0, .int a1, .int a2, .int (-1), .int (-1), .int 0, .null, .null], [], sM Ln I L c s) Q) ∧ (¬ (a2 ≤ 15) → Q (some 0, .null, sM Ln I L (c + 1) (s + 6))))))) ∧ (¬ (a1 < I 1 9) → Q (some 2, .null, sM Ln I L (c + 1) (s + 6))))))) : dd_Ev d m_X10_lost [.ref 0, .int a1, .int a2] (sM Ln I L c s) Q := by
  obtain ⟨e, rfl⟩ : ∃ e, d = e + 16 := ⟨d - 16, by omega⟩
  show dd_Rn (e + 16) m_X10_lost (0, [.ref 0, .int a1, .int a2, .null, .null, .null, .null, .null], [], sM Ln I L c s) Q
  refine dd_Rn.sub 2 (pc := 2) (ls := [.ref 0, .int a1, .int a2, .null, .null, .null, .null, .null]) (st := [.int a1, .ref 0]) (M := sM Ln I L c s) (x := m_X10_requirePart) (as := [.ref 0, .int a1]) (rest := []) rfl rfl rfl rfl ?_
  show dd_Rn (e + 15) m_X10_requirePart (0, [.ref 0, .int a1], [], sM Ln I L c s) _
  refine dd_Rn.ite 1 (c := a1 < 0) (A := (15, [.ref 0, .int a1], [], sM Ln I L c s)) (B := (4, [.ref 0, .int a1], [], sM Ln I L c s)) rfl (fun hc => ?_) (fun hc => ?_) (by omega)
  · have h := h.1 hc
    exact dd_Rn.throw 0 (pc := 15) (ls := [.ref 0, .int a1]) (st := []) (M := sM Ln I L c s) rfl rfl rfl (by omega) rfl (dd_Af.thr rfl rfl rfl h)
  · have h := h.2 hc
    refine dd_Rn.ite 4 (c := a1 < I 1 9) (A := (25, [.ref 0, .int a1], [], sM Ln I L c s)) (B := (15, [.ref 0, .int a1], [], sM Ln I L c s)) rfl (fun hc => ?_) (fun hc => ?_) (by omega)
    · have h := h.1 hc
      refine dd_Rn.retK 0 (pc := 25) (ls := [.ref 0, .int a1]) (st := []) (M := sM Ln I L c s) (o := (none, .null, sM Ln I L c s)) rfl rfl (dd_Af.ret rfl ?_) (by omega)
      show dd_Rn (e + 16) m_X10_lost (5, [.ref 0, .int a1, .int a2, .null, .null, .null, .null, .null], [], sM Ln I L c s) _
      refine dd_Rn.sub 4 (pc := 10) (ls := [.ref 0, .int a1, .int a2, .null, .null, .null, .null, .null]) (st := [.int 15, .int 0, .int a2, .ref 0]) (M := sM Ln I L c s) (x := m_X10_requireNumber) (as := [.ref 0, .int a2, .int 0, .int 15]) (rest := []) rfl rfl rfl rfl ?_
      show dd_Rn (e + 15) m_X10_requireNumber (0, [.ref 0, .int a2, .int 0, .int 15], [], sM Ln I L c s) _
      refine dd_Rn.ite 2 (c := a2 < 0) (A := (10, [.ref 0, .int a2, .int 0, .int 15], [], sM Ln I L c s)) (B := (5, [.ref 0, .int a2, .int 0, .int 15], [], sM Ln I L c s)) rfl (fun hc => ?_) (fun hc => ?_) (by omega)
      · have h := h.1 hc
        exact dd_Rn.throw 0 (pc := 10) (ls := [.ref 0, .int a2, .int 0, .int 15]) (st := []) (M := sM Ln I L c s) rfl rfl rfl (by omega) rfl (dd_Af.thr rfl rfl rfl h)
      · have h := h.2 hc
        refine dd_Rn.ite 2 (c := a2 ≤ 15) (A := (20, [.ref 0, .int a2, .int 0, .int 15], [], sM Ln I L c s)) (B := (10, [.ref 0, .int a2, .int 0, .int 15], [], sM Ln I L c s)) rfl (fun hc => ?_) (fun hc => ?_) (by omega)
        · have h := h.1 hc
          refine dd_Rn.retK 0 (pc := 20) (ls := [.ref 0, .int a2, .int 0, .int 15]) (st := []) (M := sM Ln I L c s) (o := (none, .null, sM Ln I L c s)) rfl rfl (dd_Af.ret rfl ?_) (by omega)
          show dd_Rn (e + 16) m_X10_lost (13, [.ref 0, .int a1, .int a2, .null, .null, .null, .null, .null], [], sM Ln I L c s) _
          exact dd_Rn.go 6 (cf' := (21, [.ref 0, .int a1, .int a2, .int (-1), .int (-1), .int 0, .null, .null], [], sM Ln I L c s)) rfl h (by omega)
        · have h := h.2 hc
          exact dd_Rn.throw 0 (pc := 10) (ls := [.ref 0, .int a2, .int 0, .int 15]) (st := []) (M := sM Ln I L c s) rfl rfl rfl (by omega) rfl (dd_Af.thr rfl rfl rfl h)
    · have h := h.2 hc
      exact dd_Rn.throw 0 (pc := 15) (ls := [.ref 0, .int a1]) (st := []) (M := sM Ln I L c s) rfl rfl rfl (by omega) rfl (dd_Af.thr rfl rfl rfl h)

theorem w_X10_lost_21 {Ln d c s : Nat} {I : Nat → Nat → Int32} {L : Nat → Nat → Int64} {Q : dd_O → Prop} {a1 a2 a3 a4 a5 : Int32} {a6 a7 : Value} (hd : 28 ≤ d) (h : (((64 : Int32) ≤ a5 → Q (none, .int a3, sM Ln I L c s)) ∧ (¬ ((64 : Int32) ≤ a5) → dd_Ev (d - 1) m_X8_isOpen [.ref 1, .int a5] (sM Ln I L c s) (dd_RI Ln c s (fun x1 I1 L1 => ((x1 = 0 → dd_Rn d m_X10_lost (21, [.ref 0, .int a1, .int a2, .int a3, .int a4, .int (a5 + 1), a6, a7], [], sM Ln I1 L1 c s) Q) ∧ (¬ (x1 = 0) → dd_Ev (d - 1) m_X6_become [.ref 133, .int (I1 1 10), .int a1, .int a2, .int 0] (sM Ln I1 L1 c s) (dd_RV Ln c s (fun I2 L2 => dd_Ev (d - 1) m_X6_standAt [.ref 133, .int a5] (sM Ln I2 L2 c s) (dd_RV Ln c s (fun I3 L3 => dd_Ev (d - 1) m_X6_comesIn [.ref 133] (sM Ln I3 L3 c s) (dd_RI Ln c s (fun x4 I4 L4 => ((x4 = (-1) → (((101 : Int32) ≤ a4 → dd_Rn d m_X10_lost (21, [.ref 0, .int a1, .int a2, .int a3, .int a4, .int (a5 + 1), .int x4, .int 101], [], sM Ln I4 L4 c s) Q) ∧ (¬ ((101 : Int32) ≤ a4) → dd_Rn d m_X10_lost (21, [.ref 0, .int a1, .int a2, .int a5, .int 101, .int (a5 + 1), .int x4, .int 101], [], sM Ln I4 L4 c s) Q))) ∧ (¬ (x4 = (-1)) → ((x4 ≤ a4 → dd_Rn d m_X10_lost (21, [.ref 0, .int a1, .int a2, .int a3, .int a4, .int (a5 + 1), .int x4, .int x4], [], sM Ln I4 L4 c s) Q) ∧ (¬ (x4 ≤ a4) → dd_Rn d m_X10_lost (21, [.ref 0, .int a1, .int a2, .int a5, .int x4, .int (a5 + 1), .int x4, .int x4], [], sM Ln I4 L4 c s) Q))))))))))))))))) : dd_Rn d m_X10_lost (21, [.ref 0, .int a1, .int a2, .int a3, .int a4, .int a5, a6, a7], [], sM Ln I L c s) Q := by
  obtain ⟨e, rfl⟩ : ∃ e, d = e + 16 := ⟨d - 16, by omega⟩
  refine dd_Rn.ite 2 (c := (64 : Int32) ≤ a5) (A := (110, [.ref 0, .int a1, .int a2, .int a3, .int a4, .int a5, a6, a7], [], sM Ln I L c s)) (B := (28, [.ref 0, .int a1, .int a2, .int a3, .int a4, .int a5, a6, a7], [], sM Ln I L c s)) rfl (fun hc => ?_) (fun hc => ?_) (by omega)
  · have h := h.1 hc
    exact dd_Rn.retK 1 (pc := 111) (ls := [.ref 0, .int a1, .int a2, .int a3, .int a4, .int a5, a6, a7]) (st := [.int a3]) (M := sM Ln I L c s) (o := (none, .int a3, sM Ln I L c s)) rfl rfl h (by omega)
  · have h := h.2 hc
    refine dd_Rn.cI 3 (pc := 34) (ls := [.ref 0, .int a1, .int a2, .int a3, .int a4, .int a5, a6, a7]) (st := [.int a5, .ref 1]) (x := m_X8_isOpen) (as := [.ref 1, .int a5]) (rest := []) rfl rfl rfl rfl h ?_
    intro x1 I1 L1 h
    show dd_Rn (e + 16) m_X10_lost (37, [.ref 0, .int a1, .int a2, .int a3, .int a4, .int a5, a6, a7], [.int x1], sM Ln I1 L1 c s) _
    refine dd_Rn.ite 0 (c := x1 = 0) (A := (104, [.ref 0, .int a1, .int a2, .int a3, .int a4, .int a5, a6, a7], [], sM Ln I1 L1 c s)) (B := (40, [.ref 0, .int a1, .int a2, .int a3, .int a4, .int a5, a6, a7], [], sM Ln I1 L1 c s)) rfl (fun hc => ?_) (fun hc => ?_) (by omega)
    · have h := h.1 hc
      exact dd_Rn.go 2 (cf' := (21, [.ref 0, .int a1, .int a2, .int a3, .int a4, .int (a5 + 1), a6, a7], [], sM Ln I1 L1 c s)) rfl h (by omega)
    · have h := h.2 hc
      refine dd_Rn.cV 8 (pc := 54) (ls := [.ref 0, .int a1, .int a2, .int a3, .int a4, .int a5, a6, a7]) (st := [.int 0, .int a2, .int a1, .int (I1 1 10), .ref 133]) (x := m_X6_become) (as := [.ref 133, .int (I1 1 10), .int a1, .int a2, .int 0]) (rest := []) rfl rfl rfl rfl h ?_
      intro I2 L2 h
      show dd_Rn (e + 16) m_X10_lost (57, [.ref 0, .int a1, .int a2, .int a3, .int a4, .int a5, a6, a7], [], sM Ln I2 L2 c s) _
      refine dd_Rn.cV 3 (pc := 63) (ls := [.ref 0, .int a1, .int a2, .int a3, .int a4, .int a5, a6, a7]) (st := [.int a5, .ref 133]) (x := m_X6_standAt) (as := [.ref 133, .int a5]) (rest := []) rfl rfl rfl rfl h ?_
      intro I3 L3 h
      show dd_Rn (e + 16) m_X10_lost (66, [.ref 0, .int a1, .int a2, .int a3, .int a4, .int a5, a6, a7], [], sM Ln I3 L3 c s) _
      refine dd_Rn.cI 2 (pc := 70) (ls := [.ref 0, .int a1, .int a2, .int a3, .int a4, .int a5, a6, a7]) (st := [.ref 133]) (x := m_X6_comesIn) (as := [.ref 133]) (rest := []) rfl rfl rfl rfl h ?_
      intro x4 I4 L4 h
      show dd_Rn (e + 16) m_X10_lost (73, [.ref 0, .int a1, .int a2, .int a3, .int a4, .int a5, a6, a7], [.int x4], sM Ln I4 L4 c s) _
      refine dd_Rn.ite 3 (c := x4 = (-1)) (A := (81, [.ref 0, .int a1, .int a2, .int a3, .int a4, .int a5, .int x4, a7], [], sM Ln I4 L4 c s)) (B := (86, [.ref 0, .int a1, .int a2, .int a3, .int a4, .int a5, .int x4, a7], [], sM Ln I4 L4 c s)) rfl (fun hc => ?_) (fun hc => ?_) (by omega)
      · have h := h.1 hc
        refine dd_Rn.ite 5 (c := (101 : Int32) ≤ a4) (A := (104, [.ref 0, .int a1, .int a2, .int a3, .int a4, .int a5, .int x4, .int 101], [], sM Ln I4 L4 c s)) (B := (97, [.ref 0, .int a1, .int a2, .int a3, .int a4, .int a5, .int x4, .int 101], [], sM Ln I4 L4 c s)) rfl (fun hc => ?_) (fun hc => ?_) (by omega)
        · have h := h.1 hc
          exact dd_Rn.go 2 (cf' := (21, [.ref 0, .int a1, .int a2, .int a3, .int a4, .int (a5 + 1), .int x4, .int 101], [], sM Ln I4 L4 c s)) rfl h (by omega)
        · have h := h.2 hc
          exact dd_Rn.go 6 (cf' := (21, [.ref 0, .int a1, .int a2, .int a5, .int 101, .int (a5 + 1), .int x4, .int 101], [], sM Ln I4 L4 c s)) rfl h (by omega)
      · have h := h.2 hc
        refine dd_Rn.ite 4 (c := x4 ≤ a4) (A := (104, [.ref 0, .int a1, .int a2, .int a3, .int a4, .int a5, .int x4, .int x4], [], sM Ln I4 L4 c s)) (B := (97, [.ref 0, .int a1, .int a2, .int a3, .int a4, .int a5, .int x4, .int x4], [], sM Ln I4 L4 c s)) rfl (fun hc => ?_) (fun hc => ?_) (by omega)
        · have h := h.1 hc
          exact dd_Rn.go 2 (cf' := (21, [.ref 0, .int a1, .int a2, .int a3, .int a4, .int (a5 + 1), .int x4, .int x4], [], sM Ln I4 L4 c s)) rfl h (by omega)
        · have h := h.2 hc
          exact dd_Rn.go 6 (cf' := (21, [.ref 0, .int a1, .int a2, .int a5, .int x4, .int (a5 + 1), .int x4, .int x4], [], sM Ln I4 L4 c s)) rfl h (by omega)

theorem w_X10_sounds_0 {Ln d c s : Nat} {I : Nat → Nat → Int32} {L : Nat → Nat → Int64} {Q : dd_O → Prop} {a1 : Int32} (hd : 28 ≤ d) (h : dd_Ev (d - 1) m_X10_hearTold [.ref 0] (sM Ln I L c s) (dd_TV Ln c s (fun I1 L1 => ((a1 = 0 → dd_Ev (d - 1) m_X5_cellCount [.ref 144] (sM Ln I1 L1 c s) (dd_RI Ln c s (fun x2 I2 L2 => Q (none, .int x2, sM Ln I2 L2 c s)))) ∧ (¬ (a1 = 0) → dd_Ev (d - 1) m_X5_leastCell [.ref 144] (sM Ln I1 L1 c s) (dd_RI Ln c s (fun x3 I3 L3 => Q (none, .int x3, sM Ln I3 L3 c s)))))) (fun E1 I1 L1 => Q (some E1, .null, sM Ln I1 L1 (c + 1) (s + 6))))) : dd_Ev d m_X10_sounds [.ref 0, .int a1] (sM Ln I L c s) Q := by
  obtain ⟨e, rfl⟩ : ∃ e, d = e + 16 := ⟨d - 16, by omega⟩
  show dd_Rn (e + 16) m_X10_sounds (0, [.ref 0, .int a1], [], sM Ln I L c s) Q
  refine dd_Rn.tV 1 (pc := 1) (ls := [.ref 0, .int a1]) (st := [.ref 0]) (x := m_X10_hearTold) (as := [.ref 0]) (rest := []) rfl rfl rfl rfl rfl h ?_ ?_
  · intro I1 L1 h
    show dd_Rn (e + 16) m_X10_sounds (4, [.ref 0, .int a1], [], sM Ln I1 L1 c s) _
    refine dd_Rn.ite 1 (c := a1 = 0) (A := (18, [.ref 0, .int a1], [], sM Ln I1 L1 c s)) (B := (8, [.ref 0, .int a1], [], sM Ln I1 L1 c s)) rfl (fun hc => ?_) (fun hc => ?_) (by omega)
    · have h := h.1 hc
      refine dd_Rn.cI 2 (pc := 22) (ls := [.ref 0, .int a1]) (st := [.ref 144]) (x := m_X5_cellCount) (as := [.ref 144]) (rest := []) rfl rfl rfl rfl h ?_
      intro x2 I2 L2 h
      show dd_Rn (e + 16) m_X10_sounds (25, [.ref 0, .int a1], [.int x2], sM Ln I2 L2 c s) _
      exact dd_Rn.retK 0 (pc := 25) (ls := [.ref 0, .int a1]) (st := [.int x2]) (M := sM Ln I2 L2 c s) (o := (none, .int x2, sM Ln I2 L2 c s)) rfl rfl h (by omega)
    · have h := h.2 hc
      refine dd_Rn.cI 2 (pc := 12) (ls := [.ref 0, .int a1]) (st := [.ref 144]) (x := m_X5_leastCell) (as := [.ref 144]) (rest := []) rfl rfl rfl rfl h ?_
      intro x3 I3 L3 h
      show dd_Rn (e + 16) m_X10_sounds (15, [.ref 0, .int a1], [.int x3], sM Ln I3 L3 c s) _
      exact dd_Rn.retK 1 (pc := 25) (ls := [.ref 0, .int a1]) (st := [.int x3]) (M := sM Ln I3 L3 c s) (o := (none, .int x3, sM Ln I3 L3 c s)) rfl rfl h (by omega)
  · intro E1 I1 L1 h
    exact dd_Ah.no rfl h

theorem w_X10_listen_0 {Ln d c s : Nat} {I : Nat → Nat → Int32} {L : Nat → Nat → Int64} {Q : dd_O → Prop} (hd : 28 ≤ d) (h : dd_Ev (d - 1) m_X10_hearTold [.ref 0] (sM Ln I L c s) (dd_TV Ln c s (fun I1 L1 => dd_Ev (d - 1) m_X5_bestBeat [.ref 144] (sM Ln I1 L1 c s) (dd_RI Ln c s (fun x2 I2 L2 => Q (none, .int x2, sM Ln I2 L2 c s)))) (fun E1 I1 L1 => Q (some E1, .null, sM Ln I1 L1 (c + 1) (s + 6))))) : dd_Ev d m_X10_listen [.ref 0] (sM Ln I L c s) Q := by
  obtain ⟨e, rfl⟩ : ∃ e, d = e + 16 := ⟨d - 16, by omega⟩
  show dd_Rn (e + 16) m_X10_listen (0, [.ref 0], [], sM Ln I L c s) Q
  refine dd_Rn.tV 1 (pc := 1) (ls := [.ref 0]) (st := [.ref 0]) (x := m_X10_hearTold) (as := [.ref 0]) (rest := []) rfl rfl rfl rfl rfl h ?_ ?_
  · intro I1 L1 h
    show dd_Rn (e + 16) m_X10_listen (4, [.ref 0], [], sM Ln I1 L1 c s) _
    refine dd_Rn.cI 2 (pc := 8) (ls := [.ref 0]) (st := [.ref 144]) (x := m_X5_bestBeat) (as := [.ref 144]) (rest := []) rfl rfl rfl rfl h ?_
    intro x2 I2 L2 h
    show dd_Rn (e + 16) m_X10_listen (11, [.ref 0], [.int x2], sM Ln I2 L2 c s) _
    exact dd_Rn.retK 0 (pc := 11) (ls := [.ref 0]) (st := [.int x2]) (M := sM Ln I2 L2 c s) (o := (none, .int x2, sM Ln I2 L2 c s)) rfl rfl h (by omega)
  · intro E1 I1 L1 h
    exact dd_Ah.no rfl h

theorem w_X10_hearTold_0 {Ln d c s : Nat} {I : Nat → Nat → Int32} {L : Nat → Nat → Int64} {Q : dd_O → Prop} (hd : 28 ≤ d) (h : dd_Ev (d - 1) m_X5_hearAll [.ref 144, .ref 129, .int (I 0 9)] (sM Ln (dd_u I 0 (upd (I 0) 9 0)) L c s) (dd_RI Ln c s (fun x1 I1 L1 => ((x1 = 0 → Q (some 0, .null, sM Ln I1 L1 (c + 1) (s + 6))) ∧ (¬ (x1 = 0) → ((I1 1 9 = 0 → Q (some 0, .null, sM Ln I1 L1 (c + 1) (s + 6))) ∧ (¬ (I1 1 9 = 0) → Q (none, .null, sM Ln I1 L1 c s)))))))) : dd_Ev d m_X10_hearTold [.ref 0] (sM Ln I L c s) Q := by
  obtain ⟨e, rfl⟩ : ∃ e, d = e + 16 := ⟨d - 16, by omega⟩
  show dd_Rn (e + 16) m_X10_hearTold (0, [.ref 0], [], sM Ln I L c s) Q
  refine dd_Rn.sub 5 (pc := 9) (ls := [.ref 0]) (st := [.ref 0, .ref 129, .ref 144]) (M := sM Ln I L c s) (x := m_X10_useTapeUp) (as := [.ref 0]) (rest := [.ref 129, .ref 144]) rfl rfl rfl rfl ?_
  show dd_Rn (e + 15) m_X10_useTapeUp (0, [.ref 0, .null], [], sM Ln I L c s) _
  refine dd_Rn.retK 7 (pc := 11) (ls := [.ref 0, .int (I 0 9)]) (st := [.int (I 0 9)]) (M := sM Ln (dd_u I 0 (upd (I 0) 9 0)) L c s) (o := (none, .int (I 0 9), sM Ln (dd_u I 0 (upd (I 0) 9 0)) L c s)) rfl rfl (dd_Af.ret rfl ?_) (by omega)
  show dd_Rn (e + 16) m_X10_hearTold (12, [.ref 0], [.int (I 0 9), .ref 129, .ref 144], sM Ln (dd_u I 0 (upd (I 0) 9 0)) L c s) _
  refine dd_Rn.cI 0 (pc := 12) (ls := [.ref 0]) (st := [.int (I 0 9), .ref 129, .ref 144]) (x := m_X5_hearAll) (as := [.ref 144, .ref 129, .int (I 0 9)]) (rest := []) rfl rfl rfl rfl h ?_
  intro x1 I1 L1 h
  show dd_Rn (e + 16) m_X10_hearTold (15, [.ref 0], [.int x1], sM Ln I1 L1 c s) _
  refine dd_Rn.ite 0 (c := x1 = 0) (A := (28, [.ref 0], [], sM Ln I1 L1 c s)) (B := (18, [.ref 0], [], sM Ln I1 L1 c s)) rfl (fun hc => ?_) (fun hc => ?_) (by omega)
  · have h := h.1 hc
    exact dd_Rn.throw 0 (pc := 28) (ls := [.ref 0]) (st := []) (M := sM Ln I1 L1 c s) rfl rfl rfl (by omega) rfl h
  · have h := h.2 hc
    refine dd_Rn.ite 3 (c := I1 1 9 = 0) (A := (28, [.ref 0], [], sM Ln I1 L1 c s)) (B := (39, [.ref 0], [], sM Ln I1 L1 c s)) rfl (fun hc => ?_) (fun hc => ?_) (by omega)
    · have h := h.1 hc
      exact dd_Rn.throw 0 (pc := 28) (ls := [.ref 0]) (st := []) (M := sM Ln I1 L1 c s) rfl rfl rfl (by omega) rfl h
    · have h := h.2 hc
      exact dd_Rn.retK 0 (pc := 39) (ls := [.ref 0]) (st := []) (M := sM Ln I1 L1 c s) (o := (none, .null, sM Ln I1 L1 c s)) rfl rfl h (by omega)

theorem w_X10_ears_0 {Ln d c s : Nat} {I : Nat → Nat → Int32} {L : Nat → Nat → Int64} {Q : dd_O → Prop} {a1 : Int32} (hd : 28 ≤ d) (h : ((a1 < 0 → Q (some 2, .null, sM Ln (dd_u I 0 (upd (I 0) 9 0)) L (c + 1) (s + 6))) ∧ (¬ (a1 < 0) → ((a1 < I 1 10 → dd_Ev (d - 1) m_X10_tellsEars [.ref 0, .int (I 0 9)] (sM Ln (dd_u I 0 (upd (I 0) 9 0)) L c s) (dd_RI Ln c s (fun x1 I1 L1 => ((x1 = 0 → Q (some 0, .null, sM Ln I1 L1 (c + 1) (s + 6))) ∧ (¬ (x1 = 0) → dd_Rn d m_X10_ears (34, [.ref 0, .int a1, .int (I 0 9), .int 0, .int 0], [], sM Ln I1 L1 c s) Q))))) ∧ (¬ (a1 < I 1 10) → Q (some 2, .null, sM Ln (dd_u I 0 (upd (I 0) 9 0)) L (c + 1) (s + 6))))))) : dd_Ev d m_X10_ears [.ref 0, .int a1] (sM Ln I L c s) Q := by
  obtain ⟨e, rfl⟩ : ∃ e, d = e + 16 := ⟨d - 16, by omega⟩
  show dd_Rn (e + 16) m_X10_ears (0, [.ref 0, .int a1, .null, .null, .null], [], sM Ln I L c s) Q
  refine dd_Rn.sub 1 (pc := 1) (ls := [.ref 0, .int a1, .null, .null, .null]) (st := [.ref 0]) (M := sM Ln I L c s) (x := m_X10_useTapeUp) (as := [.ref 0]) (rest := []) rfl rfl rfl rfl ?_
  show dd_Rn (e + 15) m_X10_useTapeUp (0, [.ref 0, .null], [], sM Ln I L c s) _
  refine dd_Rn.retK 7 (pc := 11) (ls := [.ref 0, .int (I 0 9)]) (st := [.int (I 0 9)]) (M := sM Ln (dd_u I 0 (upd (I 0) 9 0)) L c s) (o := (none, .int (I 0 9), sM Ln (dd_u I 0 (upd (I 0) 9 0)) L c s)) rfl rfl (dd_Af.ret rfl ?_) (by omega)
  show dd_Rn (e + 16) m_X10_ears (4, [.ref 0, .int a1, .null, .null, .null], [.int (I 0 9)], sM Ln (dd_u I 0 (upd (I 0) 9 0)) L c s) _
  refine dd_Rn.sub 3 (pc := 7) (ls := [.ref 0, .int a1, .int (I 0 9), .null, .null]) (st := [.int a1, .ref 0]) (M := sM Ln (dd_u I 0 (upd (I 0) 9 0)) L c s) (x := m_X10_requireBoy) (as := [.ref 0, .int a1]) (rest := []) rfl rfl rfl rfl ?_
  show dd_Rn (e + 15) m_X10_requireBoy (0, [.ref 0, .int a1], [], sM Ln (dd_u I 0 (upd (I 0) 9 0)) L c s) _
  refine dd_Rn.ite 1 (c := a1 < 0) (A := (15, [.ref 0, .int a1], [], sM Ln (dd_u I 0 (upd (I 0) 9 0)) L c s)) (B := (4, [.ref 0, .int a1], [], sM Ln (dd_u I 0 (upd (I 0) 9 0)) L c s)) rfl (fun hc => ?_) (fun hc => ?_) (by omega)
  · have h := h.1 hc
    exact dd_Rn.throw 0 (pc := 15) (ls := [.ref 0, .int a1]) (st := []) (M := sM Ln (dd_u I 0 (upd (I 0) 9 0)) L c s) rfl rfl rfl (by omega) rfl (dd_Af.thr rfl rfl rfl h)
  · have h := h.2 hc
    refine dd_Rn.ite 4 (c := a1 < I 1 10) (A := (25, [.ref 0, .int a1], [], sM Ln (dd_u I 0 (upd (I 0) 9 0)) L c s)) (B := (15, [.ref 0, .int a1], [], sM Ln (dd_u I 0 (upd (I 0) 9 0)) L c s)) rfl (fun hc => ?_) (fun hc => ?_) (by omega)
    · have h := h.1 hc
      refine dd_Rn.retK 0 (pc := 25) (ls := [.ref 0, .int a1]) (st := []) (M := sM Ln (dd_u I 0 (upd (I 0) 9 0)) L c s) (o := (none, .null, sM Ln (dd_u I 0 (upd (I 0) 9 0)) L c s)) rfl rfl (dd_Af.ret rfl ?_) (by omega)
      show dd_Rn (e + 16) m_X10_ears (10, [.ref 0, .int a1, .int (I 0 9), .null, .null], [], sM Ln (dd_u I 0 (upd (I 0) 9 0)) L c s) _
      refine dd_Rn.cI 2 (pc := 12) (ls := [.ref 0, .int a1, .int (I 0 9), .null, .null]) (st := [.int (I 0 9), .ref 0]) (x := m_X10_tellsEars) (as := [.ref 0, .int (I 0 9)]) (rest := []) rfl rfl rfl rfl h ?_
      intro x1 I1 L1 h
      show dd_Rn (e + 16) m_X10_ears (15, [.ref 0, .int a1, .int (I 0 9), .null, .null], [.int x1], sM Ln I1 L1 c s) _
      refine dd_Rn.ite 0 (c := x1 = 0) (A := (18, [.ref 0, .int a1, .int (I 0 9), .null, .null], [], sM Ln I1 L1 c s)) (B := (29, [.ref 0, .int a1, .int (I 0 9), .null, .null], [], sM Ln I1 L1 c s)) rfl (fun hc => ?_) (fun hc => ?_) (by omega)
      · have h := h.1 hc
        exact dd_Rn.throw 0 (pc := 18) (ls := [.ref 0, .int a1, .int (I 0 9), .null, .null]) (st := []) (M := sM Ln I1 L1 c s) rfl rfl rfl (by omega) rfl h
      · have h := h.2 hc
        exact dd_Rn.go 4 (cf' := (34, [.ref 0, .int a1, .int (I 0 9), .int 0, .int 0], [], sM Ln I1 L1 c s)) rfl h (by omega)
    · have h := h.2 hc
      exact dd_Rn.throw 0 (pc := 15) (ls := [.ref 0, .int a1]) (st := []) (M := sM Ln (dd_u I 0 (upd (I 0) 9 0)) L c s) rfl rfl rfl (by omega) rfl (dd_Af.thr rfl rfl rfl h)

theorem w_X10_ears_34 {Ln d c s : Nat} {I : Nat → Nat → Int32} {L : Nat → Nat → Int64} {Q : dd_O → Prop} {a1 a2 a3 a4 : Int32} (hd : 28 ≤ d) (h : (((15 : Int32) < a4 → Q (none, .int a3, sM Ln I L c s)) ∧ (¬ ((15 : Int32) < a4) → dd_Ev (d - 1) m_X10_earFits [.ref 0, .int a1, .int a4, .int a2] (sM Ln I L c s) (dd_RI Ln c s (fun x1 I1 L1 => ((x1 = 0 → dd_Rn d m_X10_ears (34, [.ref 0, .int a1, .int a2, .int a3, .int (a4 + 1)], [], sM Ln I1 L1 c s) Q) ∧ (¬ (x1 = 0) → dd_Rn d m_X10_ears (34, [.ref 0, .int a1, .int a2, .int (a3 ||| ((1 : Int32) <<< (a4 &&& 31))), .int (a4 + 1)], [], sM Ln I1 L1 c s) Q))))))) : dd_Rn d m_X10_ears (34, [.ref 0, .int a1, .int a2, .int a3, .int a4], [], sM Ln I L c s) Q := by
  obtain ⟨e, rfl⟩ : ∃ e, d = e + 16 := ⟨d - 16, by omega⟩
  refine dd_Rn.ite 2 (c := (15 : Int32) < a4) (A := (65, [.ref 0, .int a1, .int a2, .int a3, .int a4], [], sM Ln I L c s)) (B := (41, [.ref 0, .int a1, .int a2, .int a3, .int a4], [], sM Ln I L c s)) rfl (fun hc => ?_) (fun hc => ?_) (by omega)
  · have h := h.1 hc
    exact dd_Rn.retK 1 (pc := 66) (ls := [.ref 0, .int a1, .int a2, .int a3, .int a4]) (st := [.int a3]) (M := sM Ln I L c s) (o := (none, .int a3, sM Ln I L c s)) rfl rfl h (by omega)
  · have h := h.2 hc
    refine dd_Rn.cI 4 (pc := 46) (ls := [.ref 0, .int a1, .int a2, .int a3, .int a4]) (st := [.int a2, .int a4, .int a1, .ref 0]) (x := m_X10_earFits) (as := [.ref 0, .int a1, .int a4, .int a2]) (rest := []) rfl rfl rfl rfl h ?_
    intro x1 I1 L1 h
    show dd_Rn (e + 16) m_X10_ears (49, [.ref 0, .int a1, .int a2, .int a3, .int a4], [.int x1], sM Ln I1 L1 c s) _
    refine dd_Rn.ite 0 (c := x1 = 0) (A := (59, [.ref 0, .int a1, .int a2, .int a3, .int a4], [], sM Ln I1 L1 c s)) (B := (52, [.ref 0, .int a1, .int a2, .int a3, .int a4], [], sM Ln I1 L1 c s)) rfl (fun hc => ?_) (fun hc => ?_) (by omega)
    · have h := h.1 hc
      exact dd_Rn.go 2 (cf' := (34, [.ref 0, .int a1, .int a2, .int a3, .int (a4 + 1)], [], sM Ln I1 L1 c s)) rfl h (by omega)
    · have h := h.2 hc
      exact dd_Rn.go 8 (cf' := (34, [.ref 0, .int a1, .int a2, .int (a3 ||| ((1 : Int32) <<< (a4 &&& 31))), .int (a4 + 1)], [], sM Ln I1 L1 c s)) rfl h (by omega)

theorem w_X10_tellsEars_0 {Ln d c s : Nat} {I : Nat → Nat → Int32} {L : Nat → Nat → Int64} {Q : dd_O → Prop} {a1 : Int32} (hd : 28 ≤ d) (h : (((40 : Int32) < a1 → Q (none, .int 0, sM Ln I L c s)) ∧ (¬ ((40 : Int32) < a1) → ((a1 - a1 / 2 * 2 = 0 → dd_Rn d m_X10_tellsEars (16, [.ref 0, .int a1, .int 0, .null], [], sM Ln I L c s) Q) ∧ (¬ (a1 - a1 / 2 * 2 = 0) → Q (none, .int 0, sM Ln I L c s)))))) : dd_Ev d m_X10_tellsEars [.ref 0, .int a1] (sM Ln I L c s) Q := by
  obtain ⟨e, rfl⟩ : ∃ e, d = e + 16 := ⟨d - 16, by omega⟩
  show dd_Rn (e + 16) m_X10_tellsEars (0, [.ref 0, .int a1, .null, .null], [], sM Ln I L c s) Q
  refine dd_Rn.ite 2 (c := (40 : Int32) < a1) (A := (12, [.ref 0, .int a1, .null, .null], [], sM Ln I L c s)) (B := (6, [.ref 0, .int a1, .null, .null], [], sM Ln I L c s)) rfl (fun hc => ?_) (fun hc => ?_) (by omega)
  · have h := h.1 hc
    exact dd_Rn.retK 1 (pc := 13) (ls := [.ref 0, .int a1, .null, .null]) (st := [.int 0]) (M := sM Ln I L c s) (o := (none, .int 0, sM Ln I L c s)) rfl rfl h (by omega)
  · have h := h.2 hc
    refine dd_Rn.ite 3 (c := a1 - a1 / 2 * 2 = 0) (A := (14, [.ref 0, .int a1, .null, .null], [], sM Ln I L c s)) (B := (12, [.ref 0, .int a1, .null, .null], [], sM Ln I L c s)) rfl (fun hc => ?_) (fun hc => ?_) (by omega)
    · have h := h.1 hc
      exact dd_Rn.go 2 (cf' := (16, [.ref 0, .int a1, .int 0, .null], [], sM Ln I L c s)) rfl h (by omega)
    · have h := h.2 hc
      exact dd_Rn.retK 1 (pc := 13) (ls := [.ref 0, .int a1, .null, .null]) (st := [.int 0]) (M := sM Ln I L c s) (o := (none, .int 0, sM Ln I L c s)) rfl rfl h (by omega)

theorem w_X10_tellsEars_16 {Ln d c s : Nat} {I : Nat → Nat → Int32} {L : Nat → Nat → Int64} {Q : dd_O → Prop} {a1 a2 : Int32} {a3 : Value} (hd : 28 ≤ d) (h : ((a1 ≤ a2 + 1 → Q (none, .int 1, sM Ln I L c s)) ∧ (¬ (a1 ≤ a2 + 1) → ((0 ≤ a2 ∧ tn a2 < 400) ∧ dd_Ev (d - 1) m_X8_isOpen [.ref 1, .int (I 129 (tn a2))] (sM Ln I L c s) (dd_RI Ln c s (fun x1 I1 L1 => ((x1 = 0 → Q (none, .int 0, sM Ln I1 L1 c s)) ∧ (¬ (x1 = 0) → ((I 129 (tn a2) = I1 1 13 → Q (none, .int 0, sM Ln I1 L1 c s)) ∧ (¬ (I 129 (tn a2) = I1 1 13) → ((0 ≤ a2 + 1 ∧ tn (a2 + 1) < 400) ∧ ((I1 129 (tn (a2 + 1)) ≤ 1 → dd_Rn d m_X10_tellsEars (16, [.ref 0, .int a1, .int (a2 + 2), .int (I 129 (tn a2))], [], sM Ln I1 L1 c s) Q) ∧ (¬ (I1 129 (tn (a2 + 1)) ≤ 1) → Q (none, .int 0, sM Ln I1 L1 c s)))))))))))))) : dd_Rn d m_X10_tellsEars (16, [.ref 0, .int a1, .int a2, a3], [], sM Ln I L c s) Q := by
  obtain ⟨e, rfl⟩ : ∃ e, d = e + 16 := ⟨d - 16, by omega⟩
  refine dd_Rn.ite 4 (c := a1 ≤ a2 + 1) (A := (72, [.ref 0, .int a1, .int a2, a3], [], sM Ln I L c s)) (B := (23, [.ref 0, .int a1, .int a2, a3], [], sM Ln I L c s)) rfl (fun hc => ?_) (fun hc => ?_) (by omega)
  · have h := h.1 hc
    exact dd_Rn.retK 1 (pc := 73) (ls := [.ref 0, .int a1, .int a2, a3]) (st := [.int 1]) (M := sM Ln I L c s) (o := (none, .int 1, sM Ln I L c s)) rfl rfl h (by omega)
  · have h := h.2 hc
    obtain ⟨hc, h⟩ := h
    refine dd_Rn.chk 3 (c := 0 ≤ a2 ∧ tn a2 < 400) (A := (29, [.ref 0, .int a1, .int a2, a3], [.int (I 129 (tn a2))], sM Ln I L c s)) rfl hc ?_ (by omega)
    refine dd_Rn.cI 4 (pc := 35) (ls := [.ref 0, .int a1, .int a2, .int (I 129 (tn a2))]) (st := [.int (I 129 (tn a2)), .ref 1]) (x := m_X8_isOpen) (as := [.ref 1, .int (I 129 (tn a2))]) (rest := []) rfl rfl rfl rfl h ?_
    intro x1 I1 L1 h
    show dd_Rn (e + 16) m_X10_tellsEars (38, [.ref 0, .int a1, .int a2, .int (I 129 (tn a2))], [.int x1], sM Ln I1 L1 c s) _
    refine dd_Rn.ite 0 (c := x1 = 0) (A := (64, [.ref 0, .int a1, .int a2, .int (I 129 (tn a2))], [], sM Ln I1 L1 c s)) (B := (41, [.ref 0, .int a1, .int a2, .int (I 129 (tn a2))], [], sM Ln I1 L1 c s)) rfl (fun hc => ?_) (fun hc => ?_) (by omega)
    · have h := h.1 hc
      exact dd_Rn.retK 1 (pc := 65) (ls := [.ref 0, .int a1, .int a2, .int (I 129 (tn a2))]) (st := [.int 0]) (M := sM Ln I1 L1 c s) (o := (none, .int 0, sM Ln I1 L1 c s)) rfl rfl h (by omega)
    · have h := h.2 hc
      refine dd_Rn.ite 4 (c := I 129 (tn a2) = I1 1 13) (A := (64, [.ref 0, .int a1, .int a2, .int (I 129 (tn a2))], [], sM Ln I1 L1 c s)) (B := (52, [.ref 0, .int a1, .int a2, .int (I 129 (tn a2))], [], sM Ln I1 L1 c s)) rfl (fun hc => ?_) (fun hc => ?_) (by omega)
      · have h := h.1 hc
        exact dd_Rn.retK 1 (pc := 65) (ls := [.ref 0, .int a1, .int a2, .int (I 129 (tn a2))]) (st := [.int 0]) (M := sM Ln I1 L1 c s) (o := (none, .int 0, sM Ln I1 L1 c s)) rfl rfl h (by omega)
      · have h := h.2 hc
        obtain ⟨hc, h⟩ := h
        refine dd_Rn.go 5 (cf' := (59, [.ref 0, .int a1, .int a2, .int (I 129 (tn a2))], [.int (a2 + 1), .ref 129], sM Ln I1 L1 c s)) rfl ?_ (by omega)
        refine dd_Rn.ci (fun j0 => (59, [.ref 0, .int a1, .int a2, .int (I 129 (tn a2))], [.int j0, .ref 129], sM Ln I1 L1 c s)) (fun j0 => (60, [.ref 0, .int a1, .int a2, .int (I 129 (tn a2))], [.int (I1 129 (tn j0))], sM Ln I1 L1 c s)) (fun j0 => 0 ≤ j0 ∧ tn j0 < 400) (a2 + 1) (fun j0 hc h => dd_Rn.chk 0 (c := 0 ≤ j0 ∧ tn j0 < 400) (A := (60, [.ref 0, .int a1, .int a2, .int (I 129 (tn a2))], [.int (I1 129 (tn j0))], sM Ln I1 L1 c s)) rfl hc h (by omega)) hc ?_
        refine dd_Rn.se (cf := (60, [.ref 0, .int a1, .int a2, .int (I 129 (tn a2))], [.int (I1 129 (tn (a2 + 1)))], sM Ln I1 L1 c s)) ?_
        refine dd_Rn.ite 1 (c := I1 129 (tn (a2 + 1)) ≤ 1) (A := (66, [.ref 0, .int a1, .int a2, .int (I 129 (tn a2))], [], sM Ln I1 L1 c s)) (B := (64, [.ref 0, .int a1, .int a2, .int (I 129 (tn a2))], [], sM Ln I1 L1 c s)) rfl (fun hc => ?_) (fun hc => ?_) (by omega)
        · have h := h.1 hc
          exact dd_Rn.go 2 (cf' := (16, [.ref 0, .int a1, .int (a2 + 2), .int (I 129 (tn a2))], [], sM Ln I1 L1 c s)) rfl h (by omega)
        · have h := h.2 hc
          exact dd_Rn.retK 1 (pc := 65) (ls := [.ref 0, .int a1, .int a2, .int (I 129 (tn a2))]) (st := [.int 0]) (M := sM Ln I1 L1 c s) (o := (none, .int 0, sM Ln I1 L1 c s)) rfl rfl h (by omega)

theorem w_X10_earFits_0 {Ln d c s : Nat} {I : Nat → Nat → Int32} {L : Nat → Nat → Int64} {Q : dd_O → Prop} {a1 a2 a3 : Int32} (hd : 28 ≤ d) (h : dd_Ev (d - 1) m_X6_follow [.ref 133, .int a1] (sM Ln I L c s) (dd_RV Ln c s (fun I1 L1 => dd_Rn d m_X10_earFits (21, [.ref 0, .int a1, .int a2, .int a3, .int 0], [], sM Ln (dd_u I1 134 (upd (I1 134) 2 a2)) L1 c s) Q))) : dd_Ev d m_X10_earFits [.ref 0, .int a1, .int a2, .int a3] (sM Ln I L c s) Q := by
  obtain ⟨e, rfl⟩ : ∃ e, d = e + 16 := ⟨d - 16, by omega⟩
  show dd_Rn (e + 16) m_X10_earFits (0, [.ref 0, .int a1, .int a2, .int a3, .null], [], sM Ln I L c s) Q
  refine dd_Rn.cV 3 (pc := 5) (ls := [.ref 0, .int a1, .int a2, .int a3, .null]) (st := [.int a1, .ref 133]) (x := m_X6_follow) (as := [.ref 133, .int a1]) (rest := []) rfl rfl rfl rfl h ?_
  intro I1 L1 h
  show dd_Rn (e + 16) m_X10_earFits (8, [.ref 0, .int a1, .int a2, .int a3, .null], [], sM Ln I1 L1 c s) _
  exact dd_Rn.go 8 (cf' := (21, [.ref 0, .int a1, .int a2, .int a3, .int 0], [], sM Ln (dd_u I1 134 (upd (I1 134) 2 a2)) L1 c s)) rfl h (by omega)

theorem w_X10_earFits_21 {Ln d c s : Nat} {I : Nat → Nat → Int32} {L : Nat → Nat → Int64} {Q : dd_O → Prop} {a1 a2 a3 a4 : Int32} (hd : 28 ≤ d) (h : ((a3 ≤ a4 + 1 → Q (none, .int 1, sM Ln I L c s)) ∧ (¬ (a3 ≤ a4 + 1) → ((0 ≤ a4 ∧ tn a4 < 400) ∧ dd_Ev (d - 1) m_X6_standAt [.ref 133, .int (I 129 (tn a4))] (sM Ln I L c s) (dd_RV Ln c s (fun I1 L1 => dd_Ev (d - 1) m_X6_hearsNow [.ref 133] (sM Ln I1 L1 c s) (dd_RI Ln c s (fun x2 I2 L2 => ((0 ≤ a4 + 1 ∧ tn (a4 + 1) < 400) ∧ ((I2 129 (tn (a4 + 1)) = 1 → ((x2 = 1 → dd_Rn d m_X10_earFits (21, [.ref 0, .int a1, .int a2, .int a3, .int (a4 + 2)], [], sM Ln I2 L2 c s) Q) ∧ (¬ (x2 = 1) → Q (none, .int 0, sM Ln I2 L2 c s)))) ∧ (¬ (I2 129 (tn (a4 + 1)) = 1) → ((x2 = 0 → dd_Rn d m_X10_earFits (21, [.ref 0, .int a1, .int a2, .int a3, .int (a4 + 2)], [], sM Ln I2 L2 c s) Q) ∧ (¬ (x2 = 0) → Q (none, .int 0, sM Ln I2 L2 c s)))))))))))))) : dd_Rn d m_X10_earFits (21, [.ref 0, .int a1, .int a2, .int a3, .int a4], [], sM Ln I L c s) Q := by
  obtain ⟨e, rfl⟩ : ∃ e, d = e + 16 := ⟨d - 16, by omega⟩
  refine dd_Rn.ite 4 (c := a3 ≤ a4 + 1) (A := (79, [.ref 0, .int a1, .int a2, .int a3, .int a4], [], sM Ln I L c s)) (B := (29, [.ref 0, .int a1, .int a2, .int a3, .int a4], [], sM Ln I L c s)) rfl (fun hc => ?_) (fun hc => ?_) (by omega)
  · have h := h.1 hc
    exact dd_Rn.retK 1 (pc := 80) (ls := [.ref 0, .int a1, .int a2, .int a3, .int a4]) (st := [.int 1]) (M := sM Ln I L c s) (o := (none, .int 1, sM Ln I L c s)) rfl rfl h (by omega)
  · have h := h.2 hc
    obtain ⟨hc, h⟩ := h
    refine dd_Rn.chk 5 (c := 0 ≤ a4 ∧ tn a4 < 400) (A := (40, [.ref 0, .int a1, .int a2, .int a3, .int a4], [.int (I 129 (tn a4)), .ref 133], sM Ln I L c s)) rfl hc ?_ (by omega)
    refine dd_Rn.cV 0 (pc := 40) (ls := [.ref 0, .int a1, .int a2, .int a3, .int a4]) (st := [.int (I 129 (tn a4)), .ref 133]) (x := m_X6_standAt) (as := [.ref 133, .int (I 129 (tn a4))]) (rest := []) rfl rfl rfl rfl h ?_
    intro I1 L1 h
    show dd_Rn (e + 16) m_X10_earFits (43, [.ref 0, .int a1, .int a2, .int a3, .int a4], [], sM Ln I1 L1 c s) _
    refine dd_Rn.cI 2 (pc := 47) (ls := [.ref 0, .int a1, .int a2, .int a3, .int a4]) (st := [.ref 133]) (x := m_X6_hearsNow) (as := [.ref 133]) (rest := []) rfl rfl rfl rfl h ?_
    intro x2 I2 L2 h
    show dd_Rn (e + 16) m_X10_earFits (50, [.ref 0, .int a1, .int a2, .int a3, .int a4], [.int x2], sM Ln I2 L2 c s) _
    obtain ⟨hc, h⟩ := h
    refine dd_Rn.go 5 (cf' := (58, [.ref 0, .int a1, .int a2, .int a3, .int a4], [.int (a4 + 1), .ref 129, .int x2], sM Ln I2 L2 c s)) rfl ?_ (by omega)
    refine dd_Rn.ci (fun j0 => (58, [.ref 0, .int a1, .int a2, .int a3, .int a4], [.int j0, .ref 129, .int x2], sM Ln I2 L2 c s)) (fun j0 => (59, [.ref 0, .int a1, .int a2, .int a3, .int a4], [.int (I2 129 (tn j0)), .int x2], sM Ln I2 L2 c s)) (fun j0 => 0 ≤ j0 ∧ tn j0 < 400) (a4 + 1) (fun j0 hc h => dd_Rn.chk 0 (c := 0 ≤ j0 ∧ tn j0 < 400) (A := (59, [.ref 0, .int a1, .int a2, .int a3, .int a4], [.int (I2 129 (tn j0)), .int x2], sM Ln I2 L2 c s)) rfl hc h (by omega)) hc ?_
    refine dd_Rn.se (cf := (59, [.ref 0, .int a1, .int a2, .int a3, .int a4], [.int (I2 129 (tn (a4 + 1))), .int x2], sM Ln I2 L2 c s)) ?_
    refine dd_Rn.ite 1 (c := I2 129 (tn (a4 + 1)) = 1) (A := (63, [.ref 0, .int a1, .int a2, .int a3, .int a4], [.int x2], sM Ln I2 L2 c s)) (B := (67, [.ref 0, .int a1, .int a2, .int a3, .int a4], [.int x2], sM Ln I2 L2 c s)) rfl (fun hc => ?_) (fun hc => ?_) (by omega)
    · have h := h.1 hc
      refine dd_Rn.ite 2 (c := x2 = 1) (A := (73, [.ref 0, .int a1, .int a2, .int a3, .int a4], [], sM Ln I2 L2 c s)) (B := (71, [.ref 0, .int a1, .int a2, .int a3, .int a4], [], sM Ln I2 L2 c s)) rfl (fun hc => ?_) (fun hc => ?_) (by omega)
      · have h := h.1 hc
        exact dd_Rn.go 2 (cf' := (21, [.ref 0, .int a1, .int a2, .int a3, .int (a4 + 2)], [], sM Ln I2 L2 c s)) rfl h (by omega)
      · have h := h.2 hc
        exact dd_Rn.retK 1 (pc := 72) (ls := [.ref 0, .int a1, .int a2, .int a3, .int a4]) (st := [.int 0]) (M := sM Ln I2 L2 c s) (o := (none, .int 0, sM Ln I2 L2 c s)) rfl rfl h (by omega)
    · have h := h.2 hc
      refine dd_Rn.ite 1 (c := x2 = 0) (A := (73, [.ref 0, .int a1, .int a2, .int a3, .int a4], [], sM Ln I2 L2 c s)) (B := (71, [.ref 0, .int a1, .int a2, .int a3, .int a4], [], sM Ln I2 L2 c s)) rfl (fun hc => ?_) (fun hc => ?_) (by omega)
      · have h := h.1 hc
        exact dd_Rn.go 2 (cf' := (21, [.ref 0, .int a1, .int a2, .int a3, .int (a4 + 2)], [], sM Ln I2 L2 c s)) rfl h (by omega)
      · have h := h.2 hc
        exact dd_Rn.retK 1 (pc := 72) (ls := [.ref 0, .int a1, .int a2, .int a3, .int a4]) (st := [.int 0]) (M := sM Ln I2 L2 c s) (o := (none, .int 0, sM Ln I2 L2 c s)) rfl rfl h (by omega)

theorem w_X10_code_0 {Ln d c s : Nat} {I : Nat → Nat → Int32} {L : Nat → Nat → Int64} {Q : dd_O → Prop} (hd : 28 ≤ d) (h : dd_Rn d m_X10_code (7, [.ref 0, .int (-1), .int 9, .int 0, .null], [], sM Ln I L c s) Q) : dd_Ev d m_X10_code [.ref 0] (sM Ln I L c s) Q := by
  obtain ⟨e, rfl⟩ : ∃ e, d = e + 16 := ⟨d - 16, by omega⟩
  show dd_Rn (e + 16) m_X10_code (0, [.ref 0, .null, .null, .null, .null], [], sM Ln I L c s) Q
  exact dd_Rn.go 6 (cf' := (7, [.ref 0, .int (-1), .int 9, .int 0, .null], [], sM Ln I L c s)) rfl h (by omega)

theorem w_X10_code_7 {Ln d c s : Nat} {I : Nat → Nat → Int32} {L : Nat → Nat → Int64} {Q : dd_O → Prop} {a1 a2 a3 : Int32} {a4 : Value} (hd : 28 ≤ d) (h : (((256 : Int32) ≤ a3 → Q (none, .int a1, sM Ln I L c s)) ∧ (¬ ((256 : Int32) ≤ a3) → dd_Ev (d - 1) m_J6_bitCount_0f7a4 [.int a3] (sM Ln I L c s) (dd_RI Ln c s (fun x1 I1 L1 => ((a2 ≤ x1 → dd_Rn d m_X10_code (7, [.ref 0, .int a1, .int a2, .int (a3 + 1), .int x1], [], sM Ln I1 L1 c s) Q) ∧ (¬ (a2 ≤ x1) → dd_Ev (d - 1) m_X8_tellsApart [.ref 1, .int a3] (sM Ln I1 L1 c s) (dd_RI Ln c s (fun x2 I2 L2 => ((x2 = 0 → dd_Rn d m_X10_code (7, [.ref 0, .int a1, .int a2, .int (a3 + 1), .int x1], [], sM Ln I2 L2 c s) Q) ∧ (¬ (x2 = 0) → dd_Rn d m_X10_code (7, [.ref 0, .int a3, .int x1, .int (a3 + 1), .int x1], [], sM Ln I2 L2 c s) Q))))))))))) : dd_Rn d m_X10_code (7, [.ref 0, .int a1, .int a2, .int a3, a4], [], sM Ln I L c s) Q := by
  obtain ⟨e, rfl⟩ : ∃ e, d = e + 16 := ⟨d - 16, by omega⟩
  refine dd_Rn.ite 2 (c := (256 : Int32) ≤ a3) (A := (48, [.ref 0, .int a1, .int a2, .int a3, a4], [], sM Ln I L c s)) (B := (14, [.ref 0, .int a1, .int a2, .int a3, a4], [], sM Ln I L c s)) rfl (fun hc => ?_) (fun hc => ?_) (by omega)
  · have h := h.1 hc
    exact dd_Rn.retK 1 (pc := 49) (ls := [.ref 0, .int a1, .int a2, .int a3, a4]) (st := [.int a1]) (M := sM Ln I L c s) (o := (none, .int a1, sM Ln I L c s)) rfl rfl h (by omega)
  · have h := h.2 hc
    refine dd_Rn.cI 1 (pc := 15) (ls := [.ref 0, .int a1, .int a2, .int a3, a4]) (st := [.int a3]) (x := m_J6_bitCount_0f7a4) (as := [.int a3]) (rest := []) rfl rfl rfl rfl h ?_
    intro x1 I1 L1 h
    show dd_Rn (e + 16) m_X10_code (18, [.ref 0, .int a1, .int a2, .int a3, a4], [.int x1], sM Ln I1 L1 c s) _
    refine dd_Rn.ite 3 (c := a2 ≤ x1) (A := (42, [.ref 0, .int a1, .int a2, .int a3, .int x1], [], sM Ln I1 L1 c s)) (B := (26, [.ref 0, .int a1, .int a2, .int a3, .int x1], [], sM Ln I1 L1 c s)) rfl (fun hc => ?_) (fun hc => ?_) (by omega)
    · have h := h.1 hc
      exact dd_Rn.go 2 (cf' := (7, [.ref 0, .int a1, .int a2, .int (a3 + 1), .int x1], [], sM Ln I1 L1 c s)) rfl h (by omega)
    · have h := h.2 hc
      refine dd_Rn.cI 3 (pc := 31) (ls := [.ref 0, .int a1, .int a2, .int a3, .int x1]) (st := [.int a3, .ref 1]) (x := m_X8_tellsApart) (as := [.ref 1, .int a3]) (rest := []) rfl rfl rfl rfl h ?_
      intro x2 I2 L2 h
      show dd_Rn (e + 16) m_X10_code (34, [.ref 0, .int a1, .int a2, .int a3, .int x1], [.int x2], sM Ln I2 L2 c s) _
      refine dd_Rn.ite 0 (c := x2 = 0) (A := (42, [.ref 0, .int a1, .int a2, .int a3, .int x1], [], sM Ln I2 L2 c s)) (B := (37, [.ref 0, .int a1, .int a2, .int a3, .int x1], [], sM Ln I2 L2 c s)) rfl (fun hc => ?_) (fun hc => ?_) (by omega)
      · have h := h.1 hc
        exact dd_Rn.go 2 (cf' := (7, [.ref 0, .int a1, .int a2, .int (a3 + 1), .int x1], [], sM Ln I2 L2 c s)) rfl h (by omega)
      · have h := h.2 hc
        exact dd_Rn.go 6 (cf' := (7, [.ref 0, .int a3, .int x1, .int (a3 + 1), .int x1], [], sM Ln I2 L2 c s)) rfl h (by omega)

theorem w_X10_shifted_0 {Ln d c s : Nat} {I : Nat → Nat → Int32} {L : Nat → Nat → Int64} {Q : dd_O → Prop} {a1 a2 : Int32} (hd : 28 ≤ d) (h : ((a1 < 0 → Q (some 2, .null, sM Ln I L (c + 1) (s + 6))) ∧ (¬ (a1 < 0) → ((a1 < I 1 9 → ((a2 < 0 → Q (some 2, .null, sM Ln I L (c + 1) (s + 6))) ∧ (¬ (a2 < 0) → ((a2 < I 1 9 → ((a1 = a2 → Q (some 0, .null, sM Ln I L (c + 1) (s + 6))) ∧ (¬ (a1 = a2) → dd_Rn d m_X10_shifted (18, [.ref 0, .int a1, .int a2, .int 1], [], sM Ln I L c s) Q))) ∧ (¬ (a2 < I 1 9) → Q (some 2, .null, sM Ln I L (c + 1) (s + 6))))))) ∧ (¬ (a1 < I 1 9) → Q (some 2, .null, sM Ln I L (c + 1) (s + 6))))))) : dd_Ev d m_X10_shifted [.ref 0, .int a1, .int a2] (sM Ln I L c s) Q := by
  obtain ⟨e, rfl⟩ : ∃ e, d = e + 16 := ⟨d - 16, by omega⟩
  show dd_Rn (e + 16) m_X10_shifted (0, [.ref 0, .int a1, .int a2, .null], [], sM Ln I L c s) Q
  refine dd_Rn.sub 2 (pc := 2) (ls := [.ref 0, .int a1, .int a2, .null]) (st := [.int a1, .ref 0]) (M := sM Ln I L c s) (x := m_X10_requirePart) (as := [.ref 0, .int a1]) (rest := []) rfl rfl rfl rfl ?_
  show dd_Rn (e + 15) m_X10_requirePart (0, [.ref 0, .int a1], [], sM Ln I L c s) _
  refine dd_Rn.ite 1 (c := a1 < 0) (A := (15, [.ref 0, .int a1], [], sM Ln I L c s)) (B := (4, [.ref 0, .int a1], [], sM Ln I L c s)) rfl (fun hc => ?_) (fun hc => ?_) (by omega)
  · have h := h.1 hc
    exact dd_Rn.throw 0 (pc := 15) (ls := [.ref 0, .int a1]) (st := []) (M := sM Ln I L c s) rfl rfl rfl (by omega) rfl (dd_Af.thr rfl rfl rfl h)
  · have h := h.2 hc
    refine dd_Rn.ite 4 (c := a1 < I 1 9) (A := (25, [.ref 0, .int a1], [], sM Ln I L c s)) (B := (15, [.ref 0, .int a1], [], sM Ln I L c s)) rfl (fun hc => ?_) (fun hc => ?_) (by omega)
    · have h := h.1 hc
      refine dd_Rn.retK 0 (pc := 25) (ls := [.ref 0, .int a1]) (st := []) (M := sM Ln I L c s) (o := (none, .null, sM Ln I L c s)) rfl rfl (dd_Af.ret rfl ?_) (by omega)
      show dd_Rn (e + 16) m_X10_shifted (5, [.ref 0, .int a1, .int a2, .null], [], sM Ln I L c s) _
      refine dd_Rn.sub 2 (pc := 7) (ls := [.ref 0, .int a1, .int a2, .null]) (st := [.int a2, .ref 0]) (M := sM Ln I L c s) (x := m_X10_requirePart) (as := [.ref 0, .int a2]) (rest := []) rfl rfl rfl rfl ?_
      show dd_Rn (e + 15) m_X10_requirePart (0, [.ref 0, .int a2], [], sM Ln I L c s) _
      refine dd_Rn.ite 1 (c := a2 < 0) (A := (15, [.ref 0, .int a2], [], sM Ln I L c s)) (B := (4, [.ref 0, .int a2], [], sM Ln I L c s)) rfl (fun hc => ?_) (fun hc => ?_) (by omega)
      · have h := h.1 hc
        exact dd_Rn.throw 0 (pc := 15) (ls := [.ref 0, .int a2]) (st := []) (M := sM Ln I L c s) rfl rfl rfl (by omega) rfl (dd_Af.thr rfl rfl rfl h)
      · have h := h.2 hc
        refine dd_Rn.ite 4 (c := a2 < I 1 9) (A := (25, [.ref 0, .int a2], [], sM Ln I L c s)) (B := (15, [.ref 0, .int a2], [], sM Ln I L c s)) rfl (fun hc => ?_) (fun hc => ?_) (by omega)
        · have h := h.1 hc
          refine dd_Rn.retK 0 (pc := 25) (ls := [.ref 0, .int a2]) (st := []) (M := sM Ln I L c s) (o := (none, .null, sM Ln I L c s)) rfl rfl (dd_Af.ret rfl ?_) (by omega)
          show dd_Rn (e + 16) m_X10_shifted (10, [.ref 0, .int a1, .int a2, .null], [], sM Ln I L c s) _
          refine dd_Rn.sub 3 (pc := 13) (ls := [.ref 0, .int a1, .int a2, .null]) (st := [.int a2, .int a1, .ref 0]) (M := sM Ln I L c s) (x := m_X10_requireTwo) (as := [.ref 0, .int a1, .int a2]) (rest := []) rfl rfl rfl rfl ?_
          show dd_Rn (e + 15) m_X10_requireTwo (0, [.ref 0, .int a1, .int a2], [], sM Ln I L c s) _
          refine dd_Rn.ite 2 (c := a1 = a2) (A := (5, [.ref 0, .int a1, .int a2], [], sM Ln I L c s)) (B := (15, [.ref 0, .int a1, .int a2], [], sM Ln I L c s)) rfl (fun hc => ?_) (fun hc => ?_) (by omega)
          · have h := h.1 hc
            exact dd_Rn.throw 0 (pc := 5) (ls := [.ref 0, .int a1, .int a2]) (st := []) (M := sM Ln I L c s) rfl rfl rfl (by omega) rfl (dd_Af.thr rfl rfl rfl h)
          · have h := h.2 hc
            refine dd_Rn.retK 0 (pc := 15) (ls := [.ref 0, .int a1, .int a2]) (st := []) (M := sM Ln I L c s) (o := (none, .null, sM Ln I L c s)) rfl rfl (dd_Af.ret rfl ?_) (by omega)
            show dd_Rn (e + 16) m_X10_shifted (16, [.ref 0, .int a1, .int a2, .null], [], sM Ln I L c s) _
            exact dd_Rn.go 2 (cf' := (18, [.ref 0, .int a1, .int a2, .int 1], [], sM Ln I L c s)) rfl h (by omega)
        · have h := h.2 hc
          exact dd_Rn.throw 0 (pc := 15) (ls := [.ref 0, .int a2]) (st := []) (M := sM Ln I L c s) rfl rfl rfl (by omega) rfl (dd_Af.thr rfl rfl rfl h)
    · have h := h.2 hc
      exact dd_Rn.throw 0 (pc := 15) (ls := [.ref 0, .int a1]) (st := []) (M := sM Ln I L c s) rfl rfl rfl (by omega) rfl (dd_Af.thr rfl rfl rfl h)

theorem w_X10_shifted_18 {Ln d c s : Nat} {I : Nat → Nat → Int32} {L : Nat → Nat → Int64} {Q : dd_O → Prop} {a1 a2 a3 : Int32} (hd : 28 ≤ d) (h : (((8 : Int32) ≤ a3 → Q (none, .int (-1), sM Ln I L c s)) ∧ (¬ ((8 : Int32) ≤ a3) → dd_Ev (d - 1) m_X8_isShifted [.ref 1, .int a1, .int a2, .int a3] (sM Ln I L c s) (dd_RI Ln c s (fun x1 I1 L1 => ((x1 = 0 → dd_Rn d m_X10_shifted (18, [.ref 0, .int a1, .int a2, .int (a3 + 1)], [], sM Ln I1 L1 c s) Q) ∧ (¬ (x1 = 0) → Q (none, .int a3, sM Ln I1 L1 c s)))))))) : dd_Rn d m_X10_shifted (18, [.ref 0, .int a1, .int a2, .int a3], [], sM Ln I L c s) Q := by
  obtain ⟨e, rfl⟩ : ∃ e, d = e + 16 := ⟨d - 16, by omega⟩
  refine dd_Rn.ite 2 (c := (8 : Int32) ≤ a3) (A := (45, [.ref 0, .int a1, .int a2, .int a3], [], sM Ln I L c s)) (B := (24, [.ref 0, .int a1, .int a2, .int a3], [], sM Ln I L c s)) rfl (fun hc => ?_) (fun hc => ?_) (by omega)
  · have h := h.1 hc
    exact dd_Rn.retK 1 (pc := 46) (ls := [.ref 0, .int a1, .int a2, .int a3]) (st := [.int (-1)]) (M := sM Ln I L c s) (o := (none, .int (-1), sM Ln I L c s)) rfl rfl h (by omega)
  · have h := h.2 hc
    refine dd_Rn.cI 5 (pc := 31) (ls := [.ref 0, .int a1, .int a2, .int a3]) (st := [.int a3, .int a2, .int a1, .ref 1]) (x := m_X8_isShifted) (as := [.ref 1, .int a1, .int a2, .int a3]) (rest := []) rfl rfl rfl rfl h ?_
    intro x1 I1 L1 h
    show dd_Rn (e + 16) m_X10_shifted (34, [.ref 0, .int a1, .int a2, .int a3], [.int x1], sM Ln I1 L1 c s) _
    refine dd_Rn.ite 0 (c := x1 = 0) (A := (39, [.ref 0, .int a1, .int a2, .int a3], [], sM Ln I1 L1 c s)) (B := (37, [.ref 0, .int a1, .int a2, .int a3], [], sM Ln I1 L1 c s)) rfl (fun hc => ?_) (fun hc => ?_) (by omega)
    · have h := h.1 hc
      exact dd_Rn.go 2 (cf' := (18, [.ref 0, .int a1, .int a2, .int (a3 + 1)], [], sM Ln I1 L1 c s)) rfl h (by omega)
    · have h := h.2 hc
      exact dd_Rn.retK 1 (pc := 38) (ls := [.ref 0, .int a1, .int a2, .int a3]) (st := [.int a3]) (M := sM Ln I1 L1 c s) (o := (none, .int a3, sM Ln I1 L1 c s)) rfl rfl h (by omega)

theorem w_X10_silence_0 {Ln d c s : Nat} {I : Nat → Nat → Int32} {L : Nat → Nat → Int64} {Q : dd_O → Prop} {a1 : Int32} (hd : 28 ≤ d) (h : ((a1 < 0 → Q (some 2, .null, sM Ln I L (c + 1) (s + 6))) ∧ (¬ (a1 < 0) → ((a1 < I 1 9 → dd_Ev (d - 1) m_X8_silencesOf [.ref 1, .int a1] (sM Ln I L c s) (dd_RI Ln c s (fun x1 I1 L1 => Q (none, .int x1, sM Ln I1 L1 c s)))) ∧ (¬ (a1 < I 1 9) → Q (some 2, .null, sM Ln I L (c + 1) (s + 6))))))) : dd_Ev d m_X10_silence [.ref 0, .int a1] (sM Ln I L c s) Q := by
  obtain ⟨e, rfl⟩ : ∃ e, d = e + 16 := ⟨d - 16, by omega⟩
  show dd_Rn (e + 16) m_X10_silence (0, [.ref 0, .int a1], [], sM Ln I L c s) Q
  refine dd_Rn.sub 2 (pc := 2) (ls := [.ref 0, .int a1]) (st := [.int a1, .ref 0]) (M := sM Ln I L c s) (x := m_X10_requirePart) (as := [.ref 0, .int a1]) (rest := []) rfl rfl rfl rfl ?_
  show dd_Rn (e + 15) m_X10_requirePart (0, [.ref 0, .int a1], [], sM Ln I L c s) _
  refine dd_Rn.ite 1 (c := a1 < 0) (A := (15, [.ref 0, .int a1], [], sM Ln I L c s)) (B := (4, [.ref 0, .int a1], [], sM Ln I L c s)) rfl (fun hc => ?_) (fun hc => ?_) (by omega)
  · have h := h.1 hc
    exact dd_Rn.throw 0 (pc := 15) (ls := [.ref 0, .int a1]) (st := []) (M := sM Ln I L c s) rfl rfl rfl (by omega) rfl (dd_Af.thr rfl rfl rfl h)
  · have h := h.2 hc
    refine dd_Rn.ite 4 (c := a1 < I 1 9) (A := (25, [.ref 0, .int a1], [], sM Ln I L c s)) (B := (15, [.ref 0, .int a1], [], sM Ln I L c s)) rfl (fun hc => ?_) (fun hc => ?_) (by omega)
    · have h := h.1 hc
      refine dd_Rn.retK 0 (pc := 25) (ls := [.ref 0, .int a1]) (st := []) (M := sM Ln I L c s) (o := (none, .null, sM Ln I L c s)) rfl rfl (dd_Af.ret rfl ?_) (by omega)
      show dd_Rn (e + 16) m_X10_silence (5, [.ref 0, .int a1], [], sM Ln I L c s) _
      refine dd_Rn.cI 3 (pc := 10) (ls := [.ref 0, .int a1]) (st := [.int a1, .ref 1]) (x := m_X8_silencesOf) (as := [.ref 1, .int a1]) (rest := []) rfl rfl rfl rfl h ?_
      intro x1 I1 L1 h
      show dd_Rn (e + 16) m_X10_silence (13, [.ref 0, .int a1], [.int x1], sM Ln I1 L1 c s) _
      exact dd_Rn.retK 0 (pc := 13) (ls := [.ref 0, .int a1]) (st := [.int x1]) (M := sM Ln I1 L1 c s) (o := (none, .int x1, sM Ln I1 L1 c s)) rfl rfl h (by omega)
    · have h := h.2 hc
      exact dd_Rn.throw 0 (pc := 15) (ls := [.ref 0, .int a1]) (st := []) (M := sM Ln I L c s) rfl rfl rfl (by omega) rfl (dd_Af.thr rfl rfl rfl h)

theorem w_X10_hush_0 {Ln d c s : Nat} {I : Nat → Nat → Int32} {L : Nat → Nat → Int64} {Q : dd_O → Prop} {a1 : Int32} (hd : 28 ≤ d) (h : ((a1 < 0 → Q (some 2, .null, sM Ln I L (c + 1) (s + 6))) ∧ (¬ (a1 < 0) → ((a1 < I 1 9 → dd_Rn d m_X10_hush (12, [.ref 0, .int a1, .int 0, .int 0, .int 0], [], sM Ln I L c s) Q) ∧ (¬ (a1 < I 1 9) → Q (some 2, .null, sM Ln I L (c + 1) (s + 6))))))) : dd_Ev d m_X10_hush [.ref 0, .int a1] (sM Ln I L c s) Q := by
  obtain ⟨e, rfl⟩ : ∃ e, d = e + 16 := ⟨d - 16, by omega⟩
  show dd_Rn (e + 16) m_X10_hush (0, [.ref 0, .int a1, .null, .null, .null], [], sM Ln I L c s) Q
  refine dd_Rn.sub 2 (pc := 2) (ls := [.ref 0, .int a1, .null, .null, .null]) (st := [.int a1, .ref 0]) (M := sM Ln I L c s) (x := m_X10_requirePart) (as := [.ref 0, .int a1]) (rest := []) rfl rfl rfl rfl ?_
  show dd_Rn (e + 15) m_X10_requirePart (0, [.ref 0, .int a1], [], sM Ln I L c s) _
  refine dd_Rn.ite 1 (c := a1 < 0) (A := (15, [.ref 0, .int a1], [], sM Ln I L c s)) (B := (4, [.ref 0, .int a1], [], sM Ln I L c s)) rfl (fun hc => ?_) (fun hc => ?_) (by omega)
  · have h := h.1 hc
    exact dd_Rn.throw 0 (pc := 15) (ls := [.ref 0, .int a1]) (st := []) (M := sM Ln I L c s) rfl rfl rfl (by omega) rfl (dd_Af.thr rfl rfl rfl h)
  · have h := h.2 hc
    refine dd_Rn.ite 4 (c := a1 < I 1 9) (A := (25, [.ref 0, .int a1], [], sM Ln I L c s)) (B := (15, [.ref 0, .int a1], [], sM Ln I L c s)) rfl (fun hc => ?_) (fun hc => ?_) (by omega)
    · have h := h.1 hc
      refine dd_Rn.retK 0 (pc := 25) (ls := [.ref 0, .int a1]) (st := []) (M := sM Ln I L c s) (o := (none, .null, sM Ln I L c s)) rfl rfl (dd_Af.ret rfl ?_) (by omega)
      show dd_Rn (e + 16) m_X10_hush (5, [.ref 0, .int a1, .null, .null, .null], [], sM Ln I L c s) _
      exact dd_Rn.go 6 (cf' := (12, [.ref 0, .int a1, .int 0, .int 0, .int 0], [], sM Ln I L c s)) rfl h (by omega)
    · have h := h.2 hc
      exact dd_Rn.throw 0 (pc := 15) (ls := [.ref 0, .int a1]) (st := []) (M := sM Ln I L c s) rfl rfl rfl (by omega) rfl (dd_Af.thr rfl rfl rfl h)

theorem w_X10_hush_12 {Ln d c s : Nat} {I : Nat → Nat → Int32} {L : Nat → Nat → Int64} {Q : dd_O → Prop} {a1 a2 a3 a4 : Int32} (hd : 28 ≤ d) (h : (((16 : Int32) ≤ a4 → Q (none, .int (if (8 : Int32) < a2 then 8 else a2), sM Ln I L c s)) ∧ (¬ ((16 : Int32) ≤ a4) → ((0 ≤ (a1 * 8) + (a4 - a4 / 8 * 8) ∧ tn ((a1 * 8) + (a4 - a4 / 8 * 8)) < 48) ∧ ((I 3 (tn ((a1 * 8) + (a4 - a4 / 8 * 8))) = 0 → dd_Rn d m_X10_hush (12, [.ref 0, .int a1, .int (if a2 < a3 + 1 then a3 + 1 else a2), .int (a3 + 1), .int (a4 + 1)], [], sM Ln I L c s) Q) ∧ (¬ (I 3 (tn ((a1 * 8) + (a4 - a4 / 8 * 8))) = 0) → dd_Rn d m_X10_hush (12, [.ref 0, .int a1, .int (if a2 < 0 then 0 else a2), .int 0, .int (a4 + 1)], [], sM Ln I L c s) Q)))))) : dd_Rn d m_X10_hush (12, [.ref 0, .int a1, .int a2, .int a3, .int a4], [], sM Ln I L c s) Q := by
  obtain ⟨e, rfl⟩ : ∃ e, d = e + 16 := ⟨d - 16, by omega⟩
  refine dd_Rn.ite 2 (c := (16 : Int32) ≤ a4) (A := (60, [.ref 0, .int a1, .int a2, .int a3, .int a4], [], sM Ln I L c s)) (B := (19, [.ref 0, .int a1, .int a2, .int a3, .int a4], [], sM Ln I L c s)) rfl (fun hc => ?_) (fun hc => ?_) (by omega)
  · have h := h.1 hc
    exact dd_Rn.retK 3 (pc := 66) (ls := [.ref 0, .int a1, .int a2, .int a3, .int a4]) (st := [.int (if (8 : Int32) < a2 then 8 else a2)]) (M := sM Ln I L c s) (o := (none, .int (if (8 : Int32) < a2 then 8 else a2), sM Ln I L c s)) rfl rfl h (by omega)
  · have h := h.2 hc
    obtain ⟨hc, h⟩ := h
    refine dd_Rn.go 10 (cf' := (36, [.ref 0, .int a1, .int a2, .int a3, .int a4], [.int ((a1 * 8) + (a4 - a4 / 8 * 8)), .ref 3], sM Ln I L c s)) rfl ?_ (by omega)
    refine dd_Rn.ci (fun j0 => (36, [.ref 0, .int a1, .int a2, .int a3, .int a4], [.int j0, .ref 3], sM Ln I L c s)) (fun j0 => (37, [.ref 0, .int a1, .int a2, .int a3, .int a4], [.int (I 3 (tn j0))], sM Ln I L c s)) (fun j0 => 0 ≤ j0 ∧ tn j0 < 48) ((a1 * 8) + (a4 - a4 / 8 * 8)) (fun j0 hc h => dd_Rn.chk 0 (c := 0 ≤ j0 ∧ tn j0 < 48) (A := (37, [.ref 0, .int a1, .int a2, .int a3, .int a4], [.int (I 3 (tn j0))], sM Ln I L c s)) rfl hc h (by omega)) hc ?_
    refine dd_Rn.se (cf := (37, [.ref 0, .int a1, .int a2, .int a3, .int a4], [.int (I 3 (tn ((a1 * 8) + (a4 - a4 / 8 * 8))))], sM Ln I L c s)) ?_
    refine dd_Rn.ite 0 (c := I 3 (tn ((a1 * 8) + (a4 - a4 / 8 * 8))) = 0) (A := (40, [.ref 0, .int a1, .int a2, .int a3, .int a4], [], sM Ln I L c s)) (B := (46, [.ref 0, .int a1, .int a2, .int a3, .int a4], [], sM Ln I L c s)) rfl (fun hc => ?_) (fun hc => ?_) (by omega)
    · have h := h.1 hc
      exact dd_Rn.go 11 (cf' := (12, [.ref 0, .int a1, .int (if a2 < a3 + 1 then a3 + 1 else a2), .int (a3 + 1), .int (a4 + 1)], [], sM Ln I L c s)) rfl h (by omega)
    · have h := h.2 hc
      exact dd_Rn.go 8 (cf' := (12, [.ref 0, .int a1, .int (if a2 < 0 then 0 else a2), .int 0, .int (a4 + 1)], [], sM Ln I L c s)) rfl h (by omega)

theorem w_X10_quiet_0 {Ln d c s : Nat} {I : Nat → Nat → Int32} {L : Nat → Nat → Int64} {Q : dd_O → Prop} (hd : 28 ≤ d) (h : dd_Rn d m_X10_quiet (6, [.ref 0, .int (-1), .int (-1), .int 0, .null], [], sM Ln I L c s) Q) : dd_Ev d m_X10_quiet [.ref 0] (sM Ln I L c s) Q := by
  obtain ⟨e, rfl⟩ : ∃ e, d = e + 16 := ⟨d - 16, by omega⟩
  show dd_Rn (e + 16) m_X10_quiet (0, [.ref 0, .null, .null, .null, .null], [], sM Ln I L c s) Q
  exact dd_Rn.go 6 (cf' := (6, [.ref 0, .int (-1), .int (-1), .int 0, .null], [], sM Ln I L c s)) rfl h (by omega)

theorem w_X10_quiet_6 {Ln d c s : Nat} {I : Nat → Nat → Int32} {L : Nat → Nat → Int64} {Q : dd_O → Prop} {a1 a2 a3 : Int32} {a4 : Value} (hd : 28 ≤ d) (h : ((I 1 9 ≤ a3 → Q (none, .int a1, sM Ln I L c s)) ∧ (¬ (I 1 9 ≤ a3) → dd_Ev (d - 1) m_X8_silencesOf [.ref 1, .int a3] (sM Ln I L c s) (dd_RI Ln c s (fun x1 I1 L1 => ((x1 ≤ a2 → dd_Rn d m_X10_quiet (6, [.ref 0, .int a1, .int a2, .int (a3 + 1), .int x1], [], sM Ln I1 L1 c s) Q) ∧ (¬ (x1 ≤ a2) → dd_Rn d m_X10_quiet (6, [.ref 0, .int a3, .int x1, .int (a3 + 1), .int x1], [], sM Ln I1 L1 c s) Q))))))) : dd_Rn d m_X10_quiet (6, [.ref 0, .int a1, .int a2, .int a3, a4], [], sM Ln I L c s) Q := by
  obtain ⟨e, rfl⟩ : ∃ e, d = e + 16 := ⟨d - 16, by omega⟩
  refine dd_Rn.ite 4 (c := I 1 9 ≤ a3) (A := (44, [.ref 0, .int a1, .int a2, .int a3, a4], [], sM Ln I L c s)) (B := (17, [.ref 0, .int a1, .int a2, .int a3, a4], [], sM Ln I L c s)) rfl (fun hc => ?_) (fun hc => ?_) (by omega)
  · have h := h.1 hc
    exact dd_Rn.retK 1 (pc := 45) (ls := [.ref 0, .int a1, .int a2, .int a3, a4]) (st := [.int a1]) (M := sM Ln I L c s) (o := (none, .int a1, sM Ln I L c s)) rfl rfl h (by omega)
  · have h := h.2 hc
    refine dd_Rn.cI 3 (pc := 22) (ls := [.ref 0, .int a1, .int a2, .int a3, a4]) (st := [.int a3, .ref 1]) (x := m_X8_silencesOf) (as := [.ref 1, .int a3]) (rest := []) rfl rfl rfl rfl h ?_
    intro x1 I1 L1 h
    show dd_Rn (e + 16) m_X10_quiet (25, [.ref 0, .int a1, .int a2, .int a3, a4], [.int x1], sM Ln I1 L1 c s) _
    refine dd_Rn.ite 3 (c := x1 ≤ a2) (A := (38, [.ref 0, .int a1, .int a2, .int a3, .int x1], [], sM Ln I1 L1 c s)) (B := (33, [.ref 0, .int a1, .int a2, .int a3, .int x1], [], sM Ln I1 L1 c s)) rfl (fun hc => ?_) (fun hc => ?_) (by omega)
    · have h := h.1 hc
      exact dd_Rn.go 2 (cf' := (6, [.ref 0, .int a1, .int a2, .int (a3 + 1), .int x1], [], sM Ln I1 L1 c s)) rfl h (by omega)
    · have h := h.2 hc
      exact dd_Rn.go 6 (cf' := (6, [.ref 0, .int a3, .int x1, .int (a3 + 1), .int x1], [], sM Ln I1 L1 c s)) rfl h (by omega)

theorem w_X10_mends_0 {Ln d c s : Nat} {I : Nat → Nat → Int32} {L : Nat → Nat → Int64} {Q : dd_O → Prop} {a1 : Int32} (hd : 28 ≤ d) (h : ((a1 < 0 → Q (some 2, .null, sM Ln I L (c + 1) (s + 6))) ∧ (¬ (a1 < 0) → ((a1 < I 1 10 → dd_Ev (d - 1) m_X6_follow [.ref 133, .int a1] (sM Ln I L c s) (dd_RV Ln c s (fun I1 L1 => dd_Ev (d - 1) m_X6_comesIn [.ref 133] (sM Ln I1 L1 c s) (dd_RI Ln c s (fun x2 I2 L2 => ((x2 = (-1) → dd_Rn d m_X10_mends (39, [.ref 0, .int a1, .int x2, .int 101, .int (-1), .int 0, .null], [], sM Ln I2 L2 c s) Q) ∧ (¬ (x2 = (-1)) → dd_Rn d m_X10_mends (39, [.ref 0, .int a1, .int x2, .int x2, .int (-1), .int 0, .null], [], sM Ln I2 L2 c s) Q))))))) ∧ (¬ (a1 < I 1 10) → Q (some 2, .null, sM Ln I L (c + 1) (s + 6))))))) : dd_Ev d m_X10_mends [.ref 0, .int a1] (sM Ln I L c s) Q := by
  obtain ⟨e, rfl⟩ : ∃ e, d = e + 16 := ⟨d - 16, by omega⟩
  show dd_Rn (e + 16) m_X10_mends (0, [.ref 0, .int a1, .null, .null, .null, .null, .null], [], sM Ln I L c s) Q
  refine dd_Rn.sub 2 (pc := 2) (ls := [.ref 0, .int a1, .null, .null, .null, .null, .null]) (st := [.int a1, .ref 0]) (M := sM Ln I L c s) (x := m_X10_requireBoy) (as := [.ref 0, .int a1]) (rest := []) rfl rfl rfl rfl ?_
  show dd_Rn (e + 15) m_X10_requireBoy (0, [.ref 0, .int a1], [], sM Ln I L c s) _
  refine dd_Rn.ite 1 (c := a1 < 0) (A := (15, [.ref 0, .int a1], [], sM Ln I L c s)) (B := (4, [.ref 0, .int a1], [], sM Ln I L c s)) rfl (fun hc => ?_) (fun hc => ?_) (by omega)
  · have h := h.1 hc
    exact dd_Rn.throw 0 (pc := 15) (ls := [.ref 0, .int a1]) (st := []) (M := sM Ln I L c s) rfl rfl rfl (by omega) rfl (dd_Af.thr rfl rfl rfl h)
  · have h := h.2 hc
    refine dd_Rn.ite 4 (c := a1 < I 1 10) (A := (25, [.ref 0, .int a1], [], sM Ln I L c s)) (B := (15, [.ref 0, .int a1], [], sM Ln I L c s)) rfl (fun hc => ?_) (fun hc => ?_) (by omega)
    · have h := h.1 hc
      refine dd_Rn.retK 0 (pc := 25) (ls := [.ref 0, .int a1]) (st := []) (M := sM Ln I L c s) (o := (none, .null, sM Ln I L c s)) rfl rfl (dd_Af.ret rfl ?_) (by omega)
      show dd_Rn (e + 16) m_X10_mends (5, [.ref 0, .int a1, .null, .null, .null, .null, .null], [], sM Ln I L c s) _
      refine dd_Rn.cV 3 (pc := 10) (ls := [.ref 0, .int a1, .null, .null, .null, .null, .null]) (st := [.int a1, .ref 133]) (x := m_X6_follow) (as := [.ref 133, .int a1]) (rest := []) rfl rfl rfl rfl h ?_
      intro I1 L1 h
      show dd_Rn (e + 16) m_X10_mends (13, [.ref 0, .int a1, .null, .null, .null, .null, .null], [], sM Ln I1 L1 c s) _
      refine dd_Rn.cI 2 (pc := 17) (ls := [.ref 0, .int a1, .null, .null, .null, .null, .null]) (st := [.ref 133]) (x := m_X6_comesIn) (as := [.ref 133]) (rest := []) rfl rfl rfl rfl h ?_
      intro x2 I2 L2 h
      show dd_Rn (e + 16) m_X10_mends (20, [.ref 0, .int a1, .null, .null, .null, .null, .null], [.int x2], sM Ln I2 L2 c s) _
      refine dd_Rn.ite 3 (c := x2 = (-1)) (A := (26, [.ref 0, .int a1, .int x2, .null, .null, .null, .null], [], sM Ln I2 L2 c s)) (B := (31, [.ref 0, .int a1, .int x2, .null, .null, .null, .null], [], sM Ln I2 L2 c s)) rfl (fun hc => ?_) (fun hc => ?_) (by omega)
      · have h := h.1 hc
        exact dd_Rn.go 7 (cf' := (39, [.ref 0, .int a1, .int x2, .int 101, .int (-1), .int 0, .null], [], sM Ln I2 L2 c s)) rfl h (by omega)
      · have h := h.2 hc
        exact dd_Rn.go 6 (cf' := (39, [.ref 0, .int a1, .int x2, .int x2, .int (-1), .int 0, .null], [], sM Ln I2 L2 c s)) rfl h (by omega)
    · have h := h.2 hc
      exact dd_Rn.throw 0 (pc := 15) (ls := [.ref 0, .int a1]) (st := []) (M := sM Ln I L c s) rfl rfl rfl (by omega) rfl (dd_Af.thr rfl rfl rfl h)

theorem w_X10_mends_39 {Ln d c s : Nat} {I : Nat → Nat → Int32} {L : Nat → Nat → Int64} {Q : dd_O → Prop} {a1 a2 a3 a4 a5 : Int32} {a6 : Value} (hd : 28 ≤ d) (h : (((64 : Int32) ≤ a5 → Q (none, .int a4, sM Ln I L c s)) ∧ (¬ ((64 : Int32) ≤ a5) → dd_Ev (d - 1) m_X6_follow [.ref 133, .int a1] (sM Ln I L c s) (dd_RV Ln c s (fun I1 L1 => ((0 ≤ a5 / 8 ∧ tn (a5 / 8) < 8) ∧ dd_Ev (d - 1) m_X6_comesIn [.ref 133] (sM Ln (dd_u I1 135 (upd (I1 135) (tn (a5 / 8)) (a5 - a5 / 8 * 8))) L1 c s) (dd_RI Ln c s (fun x2 I2 L2 => ((x2 = (-1) → dd_Rn d m_X10_mends (39, [.ref 0, .int a1, .int a2, .int a3, .int a4, .int (a5 + 1), .int x2], [], sM Ln I2 L2 c s) Q) ∧ (¬ (x2 = (-1)) → ((a3 ≤ x2 → dd_Rn d m_X10_mends (39, [.ref 0, .int a1, .int a2, .int a3, .int a4, .int (a5 + 1), .int x2], [], sM Ln I2 L2 c s) Q) ∧ (¬ (a3 ≤ x2) → dd_Rn d m_X10_mends (39, [.ref 0, .int a1, .int a2, .int x2, .int a5, .int (a5 + 1), .int x2], [], sM Ln I2 L2 c s) Q)))))))))))) : dd_Rn d m_X10_mends (39, [.ref 0, .int a1, .int a2, .int a3, .int a4, .int a5, a6], [], sM Ln I L c s) Q := by
  obtain ⟨e, rfl⟩ : ∃ e, d = e + 16 := ⟨d - 16, by omega⟩
  refine dd_Rn.ite 2 (c := (64 : Int32) ≤ a5) (A := (106, [.ref 0, .int a1, .int a2, .int a3, .int a4, .int a5, a6], [], sM Ln I L c s)) (B := (46, [.ref 0, .int a1, .int a2, .int a3, .int a4, .int a5, a6], [], sM Ln I L c s)) rfl (fun hc => ?_) (fun hc => ?_) (by omega)
  · have h := h.1 hc
    exact dd_Rn.retK 1 (pc := 108) (ls := [.ref 0, .int a1, .int a2, .int a3, .int a4, .int a5, a6]) (st := [.int a4]) (M := sM Ln I L c s) (o := (none, .int a4, sM Ln I L c s)) rfl rfl h (by omega)
  · have h := h.2 hc
    refine dd_Rn.cV 3 (pc := 51) (ls := [.ref 0, .int a1, .int a2, .int a3, .int a4, .int a5, a6]) (st := [.int a1, .ref 133]) (x := m_X6_follow) (as := [.ref 133, .int a1]) (rest := []) rfl rfl rfl rfl h ?_
    intro I1 L1 h
    show dd_Rn (e + 16) m_X10_mends (54, [.ref 0, .int a1, .int a2, .int a3, .int a4, .int a5, a6], [], sM Ln I1 L1 c s) _
    obtain ⟨hc, h⟩ := h
    refine dd_Rn.go 9 (cf' := (71, [.ref 0, .int a1, .int a2, .int a3, .int a4, .int a5, a6], [.int (a5 - a5 / 8 * 8), .int (a5 / 8), .ref 135], sM Ln I1 L1 c s)) rfl ?_ (by omega)
    refine dd_Rn.ci (fun j0 => (71, [.ref 0, .int a1, .int a2, .int a3, .int a4, .int a5, a6], [.int (a5 - a5 / 8 * 8), .int j0, .ref 135], sM Ln I1 L1 c s)) (fun j0 => (72, [.ref 0, .int a1, .int a2, .int a3, .int a4, .int a5, a6], [], sM Ln (dd_u I1 135 (upd (I1 135) (tn j0) (a5 - a5 / 8 * 8))) L1 c s)) (fun j0 => 0 ≤ j0 ∧ tn j0 < 8) (a5 / 8) (fun j0 hc h => dd_Rn.chk 0 (c := 0 ≤ j0 ∧ tn j0 < 8) (A := (72, [.ref 0, .int a1, .int a2, .int a3, .int a4, .int a5, a6], [], sM Ln (dd_u I1 135 (upd (I1 135) (tn j0) (a5 - a5 / 8 * 8))) L1 c s)) rfl hc h (by omega)) hc ?_
    refine dd_Rn.se (cf := (72, [.ref 0, .int a1, .int a2, .int a3, .int a4, .int a5, a6], [], sM Ln (dd_u I1 135 (upd (I1 135) (tn (a5 / 8)) (a5 - a5 / 8 * 8))) L1 c s)) ?_
    refine dd_Rn.cI 2 (pc := 76) (ls := [.ref 0, .int a1, .int a2, .int a3, .int a4, .int a5, a6]) (st := [.ref 133]) (x := m_X6_comesIn) (as := [.ref 133]) (rest := []) rfl rfl rfl rfl h ?_
    intro x2 I2 L2 h
    show dd_Rn (e + 16) m_X10_mends (79, [.ref 0, .int a1, .int a2, .int a3, .int a4, .int a5, a6], [.int x2], sM Ln I2 L2 c s) _
    refine dd_Rn.ite 3 (c := x2 = (-1)) (A := (100, [.ref 0, .int a1, .int a2, .int a3, .int a4, .int a5, .int x2], [], sM Ln I2 L2 c s)) (B := (87, [.ref 0, .int a1, .int a2, .int a3, .int a4, .int a5, .int x2], [], sM Ln I2 L2 c s)) rfl (fun hc => ?_) (fun hc => ?_) (by omega)
    · have h := h.1 hc
      exact dd_Rn.go 2 (cf' := (39, [.ref 0, .int a1, .int a2, .int a3, .int a4, .int (a5 + 1), .int x2], [], sM Ln I2 L2 c s)) rfl h (by omega)
    · have h := h.2 hc
      refine dd_Rn.ite 2 (c := a3 ≤ x2) (A := (100, [.ref 0, .int a1, .int a2, .int a3, .int a4, .int a5, .int x2], [], sM Ln I2 L2 c s)) (B := (93, [.ref 0, .int a1, .int a2, .int a3, .int a4, .int a5, .int x2], [], sM Ln I2 L2 c s)) rfl (fun hc => ?_) (fun hc => ?_) (by omega)
      · have h := h.1 hc
        exact dd_Rn.go 2 (cf' := (39, [.ref 0, .int a1, .int a2, .int a3, .int a4, .int (a5 + 1), .int x2], [], sM Ln I2 L2 c s)) rfl h (by omega)
      · have h := h.2 hc
        exact dd_Rn.go 6 (cf' := (39, [.ref 0, .int a1, .int a2, .int x2, .int a5, .int (a5 + 1), .int x2], [], sM Ln I2 L2 c s)) rfl h (by omega)

theorem w_X10_meet_0 {Ln d c s : Nat} {I : Nat → Nat → Int32} {L : Nat → Nat → Int64} {Q : dd_O → Prop} {a1 a2 : Int32} (hd : 28 ≤ d) (h : ((a1 < 0 → Q (some 2, .null, sM Ln I L (c + 1) (s + 6))) ∧ (¬ (a1 < 0) → ((a1 < I 1 10 → ((a2 < 0 → Q (some 2, .null, sM Ln I L (c + 1) (s + 6))) ∧ (¬ (a2 < 0) → ((a2 < I 1 10 → ((a1 = a2 → Q (some 0, .null, sM Ln I L (c + 1) (s + 6))) ∧ (¬ (a1 = a2) → dd_Ev (d - 1) m_X6_follow [.ref 133, .int a1] (sM Ln I L c s) (dd_RV Ln c s (fun I1 L1 => dd_Ev (d - 1) m_X6_follow [.ref 136, .int a2] (sM Ln I1 L1 c s) (dd_RV Ln c s (fun I2 L2 => dd_Rn d m_X10_meet (34, [.ref 0, .int a1, .int a2, .int 0], [], sM Ln I2 L2 c s) Q))))))) ∧ (¬ (a2 < I 1 10) → Q (some 2, .null, sM Ln I L (c + 1) (s + 6))))))) ∧ (¬ (a1 < I 1 10) → Q (some 2, .null, sM Ln I L (c + 1) (s + 6))))))) : dd_Ev d m_X10_meet [.ref 0, .int a1, .int a2] (sM Ln I L c s) Q := by
  obtain ⟨e, rfl⟩ : ∃ e, d = e + 16 := ⟨d - 16, by omega⟩
  show dd_Rn (e + 16) m_X10_meet (0, [.ref 0, .int a1, .int a2, .null], [], sM Ln I L c s) Q
  refine dd_Rn.sub 2 (pc := 2) (ls := [.ref 0, .int a1, .int a2, .null]) (st := [.int a1, .ref 0]) (M := sM Ln I L c s) (x := m_X10_requireBoy) (as := [.ref 0, .int a1]) (rest := []) rfl rfl rfl rfl ?_
  show dd_Rn (e + 15) m_X10_requireBoy (0, [.ref 0, .int a1], [], sM Ln I L c s) _
  refine dd_Rn.ite 1 (c := a1 < 0) (A := (15, [.ref 0, .int a1], [], sM Ln I L c s)) (B := (4, [.ref 0, .int a1], [], sM Ln I L c s)) rfl (fun hc => ?_) (fun hc => ?_) (by omega)
  · have h := h.1 hc
    exact dd_Rn.throw 0 (pc := 15) (ls := [.ref 0, .int a1]) (st := []) (M := sM Ln I L c s) rfl rfl rfl (by omega) rfl (dd_Af.thr rfl rfl rfl h)
  · have h := h.2 hc
    refine dd_Rn.ite 4 (c := a1 < I 1 10) (A := (25, [.ref 0, .int a1], [], sM Ln I L c s)) (B := (15, [.ref 0, .int a1], [], sM Ln I L c s)) rfl (fun hc => ?_) (fun hc => ?_) (by omega)
    · have h := h.1 hc
      refine dd_Rn.retK 0 (pc := 25) (ls := [.ref 0, .int a1]) (st := []) (M := sM Ln I L c s) (o := (none, .null, sM Ln I L c s)) rfl rfl (dd_Af.ret rfl ?_) (by omega)
      show dd_Rn (e + 16) m_X10_meet (5, [.ref 0, .int a1, .int a2, .null], [], sM Ln I L c s) _
      refine dd_Rn.sub 2 (pc := 7) (ls := [.ref 0, .int a1, .int a2, .null]) (st := [.int a2, .ref 0]) (M := sM Ln I L c s) (x := m_X10_requireBoy) (as := [.ref 0, .int a2]) (rest := []) rfl rfl rfl rfl ?_
      show dd_Rn (e + 15) m_X10_requireBoy (0, [.ref 0, .int a2], [], sM Ln I L c s) _
      refine dd_Rn.ite 1 (c := a2 < 0) (A := (15, [.ref 0, .int a2], [], sM Ln I L c s)) (B := (4, [.ref 0, .int a2], [], sM Ln I L c s)) rfl (fun hc => ?_) (fun hc => ?_) (by omega)
      · have h := h.1 hc
        exact dd_Rn.throw 0 (pc := 15) (ls := [.ref 0, .int a2]) (st := []) (M := sM Ln I L c s) rfl rfl rfl (by omega) rfl (dd_Af.thr rfl rfl rfl h)
      · have h := h.2 hc
        refine dd_Rn.ite 4 (c := a2 < I 1 10) (A := (25, [.ref 0, .int a2], [], sM Ln I L c s)) (B := (15, [.ref 0, .int a2], [], sM Ln I L c s)) rfl (fun hc => ?_) (fun hc => ?_) (by omega)
        · have h := h.1 hc
          refine dd_Rn.retK 0 (pc := 25) (ls := [.ref 0, .int a2]) (st := []) (M := sM Ln I L c s) (o := (none, .null, sM Ln I L c s)) rfl rfl (dd_Af.ret rfl ?_) (by omega)
          show dd_Rn (e + 16) m_X10_meet (10, [.ref 0, .int a1, .int a2, .null], [], sM Ln I L c s) _
          refine dd_Rn.sub 3 (pc := 13) (ls := [.ref 0, .int a1, .int a2, .null]) (st := [.int a2, .int a1, .ref 0]) (M := sM Ln I L c s) (x := m_X10_requireTwo) (as := [.ref 0, .int a1, .int a2]) (rest := []) rfl rfl rfl rfl ?_
          show dd_Rn (e + 15) m_X10_requireTwo (0, [.ref 0, .int a1, .int a2], [], sM Ln I L c s) _
          refine dd_Rn.ite 2 (c := a1 = a2) (A := (5, [.ref 0, .int a1, .int a2], [], sM Ln I L c s)) (B := (15, [.ref 0, .int a1, .int a2], [], sM Ln I L c s)) rfl (fun hc => ?_) (fun hc => ?_) (by omega)
          · have h := h.1 hc
            exact dd_Rn.throw 0 (pc := 5) (ls := [.ref 0, .int a1, .int a2]) (st := []) (M := sM Ln I L c s) rfl rfl rfl (by omega) rfl (dd_Af.thr rfl rfl rfl h)
          · have h := h.2 hc
            refine dd_Rn.retK 0 (pc := 15) (ls := [.ref 0, .int a1, .int a2]) (st := []) (M := sM Ln I L c s) (o := (none, .null, sM Ln I L c s)) rfl rfl (dd_Af.ret rfl ?_) (by omega)
            show dd_Rn (e + 16) m_X10_meet (16, [.ref 0, .int a1, .int a2, .null], [], sM Ln I L c s) _
            refine dd_Rn.cV 3 (pc := 21) (ls := [.ref 0, .int a1, .int a2, .null]) (st := [.int a1, .ref 133]) (x := m_X6_follow) (as := [.ref 133, .int a1]) (rest := []) rfl rfl rfl rfl h ?_
            intro I1 L1 h
            show dd_Rn (e + 16) m_X10_meet (24, [.ref 0, .int a1, .int a2, .null], [], sM Ln I1 L1 c s) _
            refine dd_Rn.cV 3 (pc := 29) (ls := [.ref 0, .int a1, .int a2, .null]) (st := [.int a2, .ref 136]) (x := m_X6_follow) (as := [.ref 136, .int a2]) (rest := []) rfl rfl rfl rfl h ?_
            intro I2 L2 h
            show dd_Rn (e + 16) m_X10_meet (32, [.ref 0, .int a1, .int a2, .null], [], sM Ln I2 L2 c s) _
            exact dd_Rn.go 2 (cf' := (34, [.ref 0, .int a1, .int a2, .int 0], [], sM Ln I2 L2 c s)) rfl h (by omega)
        · have h := h.2 hc
          exact dd_Rn.throw 0 (pc := 15) (ls := [.ref 0, .int a2]) (st := []) (M := sM Ln I L c s) rfl rfl rfl (by omega) rfl (dd_Af.thr rfl rfl rfl h)
    · have h := h.2 hc
      exact dd_Rn.throw 0 (pc := 15) (ls := [.ref 0, .int a1]) (st := []) (M := sM Ln I L c s) rfl rfl rfl (by omega) rfl (dd_Af.thr rfl rfl rfl h)

theorem w_X10_meet_34 {Ln d c s : Nat} {I : Nat → Nat → Int32} {L : Nat → Nat → Int64} {Q : dd_O → Prop} {a1 a2 a3 : Int32} (hd : 28 ≤ d) (h : (((100 : Int32) < a3 → Q (none, .int (-1), sM Ln I L c s)) ∧ (¬ ((100 : Int32) < a3) → ((I 133 4 = I 136 4 → Q (none, .int a3, sM Ln I L c s)) ∧ (¬ (I 133 4 = I 136 4) → dd_Ev (d - 1) m_X6_beatAhead [.ref 133] (sM Ln I L c s) (dd_RV Ln c s (fun I1 L1 => dd_Ev (d - 1) m_X6_beatAhead [.ref 136] (sM Ln I1 L1 c s) (dd_RV Ln c s (fun I2 L2 => dd_Rn d m_X10_meet (34, [.ref 0, .int a1, .int a2, .int (a3 + 1)], [], sM Ln I2 L2 c s) Q))))))))) : dd_Rn d m_X10_meet (34, [.ref 0, .int a1, .int a2, .int a3], [], sM Ln I L c s) Q := by
  obtain ⟨e, rfl⟩ : ∃ e, d = e + 16 := ⟨d - 16, by omega⟩
  refine dd_Rn.ite 2 (c := (100 : Int32) < a3) (A := (79, [.ref 0, .int a1, .int a2, .int a3], [], sM Ln I L c s)) (B := (40, [.ref 0, .int a1, .int a2, .int a3], [], sM Ln I L c s)) rfl (fun hc => ?_) (fun hc => ?_) (by omega)
  · have h := h.1 hc
    exact dd_Rn.retK 1 (pc := 80) (ls := [.ref 0, .int a1, .int a2, .int a3]) (st := [.int (-1)]) (M := sM Ln I L c s) (o := (none, .int (-1), sM Ln I L c s)) rfl rfl h (by omega)
  · have h := h.2 hc
    refine dd_Rn.ite 6 (c := I 133 4 = I 136 4) (A := (57, [.ref 0, .int a1, .int a2, .int a3], [], sM Ln I L c s)) (B := (59, [.ref 0, .int a1, .int a2, .int a3], [], sM Ln I L c s)) rfl (fun hc => ?_) (fun hc => ?_) (by omega)
    · have h := h.1 hc
      exact dd_Rn.retK 1 (pc := 58) (ls := [.ref 0, .int a1, .int a2, .int a3]) (st := [.int a3]) (M := sM Ln I L c s) (o := (none, .int a3, sM Ln I L c s)) rfl rfl h (by omega)
    · have h := h.2 hc
      refine dd_Rn.cV 2 (pc := 63) (ls := [.ref 0, .int a1, .int a2, .int a3]) (st := [.ref 133]) (x := m_X6_beatAhead) (as := [.ref 133]) (rest := []) rfl rfl rfl rfl h ?_
      intro I1 L1 h
      show dd_Rn (e + 16) m_X10_meet (66, [.ref 0, .int a1, .int a2, .int a3], [], sM Ln I1 L1 c s) _
      refine dd_Rn.cV 2 (pc := 70) (ls := [.ref 0, .int a1, .int a2, .int a3]) (st := [.ref 136]) (x := m_X6_beatAhead) (as := [.ref 136]) (rest := []) rfl rfl rfl rfl h ?_
      intro I2 L2 h
      show dd_Rn (e + 16) m_X10_meet (73, [.ref 0, .int a1, .int a2, .int a3], [], sM Ln I2 L2 c s) _
      exact dd_Rn.go 2 (cf' := (34, [.ref 0, .int a1, .int a2, .int (a3 + 1)], [], sM Ln I2 L2 c s)) rfl h (by omega)

theorem w_X10_sooner_0 {Ln d c s : Nat} {I : Nat → Nat → Int32} {L : Nat → Nat → Int64} {Q : dd_O → Prop} (hd : 28 ≤ d) (h : dd_Rn d m_X10_sooner (7, [.ref 0, .int (-1), .int 101, .int 0, .null], [], sM Ln I L c s) Q) : dd_Ev d m_X10_sooner [.ref 0] (sM Ln I L c s) Q := by
  obtain ⟨e, rfl⟩ : ∃ e, d = e + 16 := ⟨d - 16, by omega⟩
  show dd_Rn (e + 16) m_X10_sooner (0, [.ref 0, .null, .null, .null, .null], [], sM Ln I L c s) Q
  exact dd_Rn.go 6 (cf' := (7, [.ref 0, .int (-1), .int 101, .int 0, .null], [], sM Ln I L c s)) rfl h (by omega)

theorem w_X10_sooner_7 {Ln d c s : Nat} {I : Nat → Nat → Int32} {L : Nat → Nat → Int64} {Q : dd_O → Prop} {a1 a2 a3 : Int32} {a4 : Value} (hd : 28 ≤ d) (h : ((I 1 10 ≤ a3 → Q (none, .int a1, sM Ln I L c s)) ∧ (¬ (I 1 10 ≤ a3) → dd_Ev (d - 1) m_X6_follow [.ref 133, .int a3] (sM Ln I L c s) (dd_RV Ln c s (fun I1 L1 => dd_Ev (d - 1) m_X6_comesIn [.ref 133] (sM Ln (dd_u I1 133 (upd (I1 133) 5 15)) L1 c s) (dd_RI Ln c s (fun x2 I2 L2 => dd_Ev (d - 1) m_X8_isIn [.ref 1, .int a3] (sM Ln I2 L2 c s) (dd_RI Ln c s (fun x3 I3 L3 => ((x3 = 0 → ((x2 = (-1) → dd_Rn d m_X10_sooner (7, [.ref 0, .int a1, .int a2, .int (a3 + 1), .int x2], [], sM Ln I3 L3 c s) Q) ∧ (¬ (x2 = (-1)) → ((a2 ≤ x2 → dd_Rn d m_X10_sooner (7, [.ref 0, .int a1, .int a2, .int (a3 + 1), .int x2], [], sM Ln I3 L3 c s) Q) ∧ (¬ (a2 ≤ x2) → dd_Rn d m_X10_sooner (7, [.ref 0, .int a3, .int x2, .int (a3 + 1), .int x2], [], sM Ln I3 L3 c s) Q))))) ∧ (¬ (x3 = 0) → dd_Rn d m_X10_sooner (7, [.ref 0, .int a1, .int a2, .int (a3 + 1), .int x2], [], sM Ln I3 L3 c s) Q))))))))))) : dd_Rn d m_X10_sooner (7, [.ref 0, .int a1, .int a2, .int a3, a4], [], sM Ln I L c s) Q := by
  obtain ⟨e, rfl⟩ : ∃ e, d = e + 16 := ⟨d - 16, by omega⟩
  refine dd_Rn.ite 4 (c := I 1 10 ≤ a3) (A := (78, [.ref 0, .int a1, .int a2, .int a3, a4], [], sM Ln I L c s)) (B := (18, [.ref 0, .int a1, .int a2, .int a3, a4], [], sM Ln I L c s)) rfl (fun hc => ?_) (fun hc => ?_) (by omega)
  · have h := h.1 hc
    exact dd_Rn.retK 1 (pc := 79) (ls := [.ref 0, .int a1, .int a2, .int a3, a4]) (st := [.int a1]) (M := sM Ln I L c s) (o := (none, .int a1, sM Ln I L c s)) rfl rfl h (by omega)
  · have h := h.2 hc
    refine dd_Rn.cV 3 (pc := 23) (ls := [.ref 0, .int a1, .int a2, .int a3, a4]) (st := [.int a3, .ref 133]) (x := m_X6_follow) (as := [.ref 133, .int a3]) (rest := []) rfl rfl rfl rfl h ?_
    intro I1 L1 h
    show dd_Rn (e + 16) m_X10_sooner (26, [.ref 0, .int a1, .int a2, .int a3, a4], [], sM Ln I1 L1 c s) _
    refine dd_Rn.cI 6 (pc := 39) (ls := [.ref 0, .int a1, .int a2, .int a3, a4]) (st := [.ref 133]) (x := m_X6_comesIn) (as := [.ref 133]) (rest := []) rfl rfl rfl rfl h ?_
    intro x2 I2 L2 h
    show dd_Rn (e + 16) m_X10_sooner (42, [.ref 0, .int a1, .int a2, .int a3, a4], [.int x2], sM Ln I2 L2 c s) _
    refine dd_Rn.cI 4 (pc := 49) (ls := [.ref 0, .int a1, .int a2, .int a3, .int x2]) (st := [.int a3, .ref 1]) (x := m_X8_isIn) (as := [.ref 1, .int a3]) (rest := []) rfl rfl rfl rfl h ?_
    intro x3 I3 L3 h
    show dd_Rn (e + 16) m_X10_sooner (52, [.ref 0, .int a1, .int a2, .int a3, .int x2], [.int x3], sM Ln I3 L3 c s) _
    refine dd_Rn.ite 0 (c := x3 = 0) (A := (55, [.ref 0, .int a1, .int a2, .int a3, .int x2], [], sM Ln I3 L3 c s)) (B := (72, [.ref 0, .int a1, .int a2, .int a3, .int x2], [], sM Ln I3 L3 c s)) rfl (fun hc => ?_) (fun hc => ?_) (by omega)
    · have h := h.1 hc
      refine dd_Rn.ite 2 (c := x2 = (-1)) (A := (72, [.ref 0, .int a1, .int a2, .int a3, .int x2], [], sM Ln I3 L3 c s)) (B := (61, [.ref 0, .int a1, .int a2, .int a3, .int x2], [], sM Ln I3 L3 c s)) rfl (fun hc => ?_) (fun hc => ?_) (by omega)
      · have h := h.1 hc
        exact dd_Rn.go 2 (cf' := (7, [.ref 0, .int a1, .int a2, .int (a3 + 1), .int x2], [], sM Ln I3 L3 c s)) rfl h (by omega)
      · have h := h.2 hc
        refine dd_Rn.ite 2 (c := a2 ≤ x2) (A := (72, [.ref 0, .int a1, .int a2, .int a3, .int x2], [], sM Ln I3 L3 c s)) (B := (67, [.ref 0, .int a1, .int a2, .int a3, .int x2], [], sM Ln I3 L3 c s)) rfl (fun hc => ?_) (fun hc => ?_) (by omega)
        · have h := h.1 hc
          exact dd_Rn.go 2 (cf' := (7, [.ref 0, .int a1, .int a2, .int (a3 + 1), .int x2], [], sM Ln I3 L3 c s)) rfl h (by omega)
        · have h := h.2 hc
          exact dd_Rn.go 6 (cf' := (7, [.ref 0, .int a3, .int x2, .int (a3 + 1), .int x2], [], sM Ln I3 L3 c s)) rfl h (by omega)
    · have h := h.2 hc
      exact dd_Rn.go 2 (cf' := (7, [.ref 0, .int a1, .int a2, .int (a3 + 1), .int x2], [], sM Ln I3 L3 c s)) rfl h (by omega)

theorem w_X10_loudest_0 {Ln d c s : Nat} {I : Nat → Nat → Int32} {L : Nat → Nat → Int64} {Q : dd_O → Prop} (hd : 28 ≤ d) (h : dd_Rn d m_X10_loudest (2, [.ref 0, .int 0], [], sM Ln I L c s) Q) : dd_Ev d m_X10_loudest [.ref 0] (sM Ln I L c s) Q := by
  obtain ⟨e, rfl⟩ : ∃ e, d = e + 16 := ⟨d - 16, by omega⟩
  show dd_Rn (e + 16) m_X10_loudest (0, [.ref 0, .null], [], sM Ln I L c s) Q
  exact dd_Rn.go 2 (cf' := (2, [.ref 0, .int 0], [], sM Ln I L c s)) rfl h (by omega)

theorem w_X10_loudest_2 {Ln d c s : Nat} {I : Nat → Nat → Int32} {L : Nat → Nat → Int64} {Q : dd_O → Prop} {a1 : Int32} (hd : 28 ≤ d) (h : (((15 : Int32) < a1 → Q (none, .int (-1), sM Ln I L c s)) ∧ (¬ ((15 : Int32) < a1) → dd_Ev (d - 1) m_X10_allInWith [.ref 0, .int a1] (sM Ln I L c s) (dd_RI Ln c s (fun x1 I1 L1 => ((x1 = (-1) → dd_Rn d m_X10_loudest (2, [.ref 0, .int (a1 + 1)], [], sM Ln I1 L1 c s) Q) ∧ (¬ (x1 = (-1)) → Q (none, .int a1, sM Ln I1 L1 c s)))))))) : dd_Rn d m_X10_loudest (2, [.ref 0, .int a1], [], sM Ln I L c s) Q := by
  obtain ⟨e, rfl⟩ : ∃ e, d = e + 16 := ⟨d - 16, by omega⟩
  refine dd_Rn.ite 2 (c := (15 : Int32) < a1) (A := (25, [.ref 0, .int a1], [], sM Ln I L c s)) (B := (8, [.ref 0, .int a1], [], sM Ln I L c s)) rfl (fun hc => ?_) (fun hc => ?_) (by omega)
  · have h := h.1 hc
    exact dd_Rn.retK 1 (pc := 26) (ls := [.ref 0, .int a1]) (st := [.int (-1)]) (M := sM Ln I L c s) (o := (none, .int (-1), sM Ln I L c s)) rfl rfl h (by omega)
  · have h := h.2 hc
    refine dd_Rn.cI 2 (pc := 10) (ls := [.ref 0, .int a1]) (st := [.int a1, .ref 0]) (x := m_X10_allInWith) (as := [.ref 0, .int a1]) (rest := []) rfl rfl rfl rfl h ?_
    intro x1 I1 L1 h
    show dd_Rn (e + 16) m_X10_loudest (13, [.ref 0, .int a1], [.int x1], sM Ln I1 L1 c s) _
    refine dd_Rn.ite 1 (c := x1 = (-1)) (A := (19, [.ref 0, .int a1], [], sM Ln I1 L1 c s)) (B := (17, [.ref 0, .int a1], [], sM Ln I1 L1 c s)) rfl (fun hc => ?_) (fun hc => ?_) (by omega)
    · have h := h.1 hc
      exact dd_Rn.go 2 (cf' := (2, [.ref 0, .int (a1 + 1)], [], sM Ln I1 L1 c s)) rfl h (by omega)
    · have h := h.2 hc
      exact dd_Rn.retK 1 (pc := 18) (ls := [.ref 0, .int a1]) (st := [.int a1]) (M := sM Ln I1 L1 c s) (o := (none, .int a1, sM Ln I1 L1 c s)) rfl rfl h (by omega)

theorem w_X10_watch_0 {Ln d c s : Nat} {I : Nat → Nat → Int32} {L : Nat → Nat → Int64} {Q : dd_O → Prop} (hd : 28 ≤ d) (h : dd_Ev (d - 1) m_X8_lostBoys [.ref 1] (sM Ln I L c s) (dd_RI Ln c s (fun x1 I1 L1 => dd_Rn d m_X10_watch (12, [.ref 0, .int x1, .int x1, .int 0, .null], [], sM Ln I1 L1 c s) Q))) : dd_Ev d m_X10_watch [.ref 0] (sM Ln I L c s) Q := by
  obtain ⟨e, rfl⟩ : ∃ e, d = e + 16 := ⟨d - 16, by omega⟩
  show dd_Rn (e + 16) m_X10_watch (0, [.ref 0, .null, .null, .null, .null], [], sM Ln I L c s) Q
  refine dd_Rn.cI 2 (pc := 4) (ls := [.ref 0, .null, .null, .null, .null]) (st := [.ref 1]) (x := m_X8_lostBoys) (as := [.ref 1]) (rest := []) rfl rfl rfl rfl h ?_
  intro x1 I1 L1 h
  show dd_Rn (e + 16) m_X10_watch (7, [.ref 0, .null, .null, .null, .null], [.int x1], sM Ln I1 L1 c s) _
  exact dd_Rn.go 5 (cf' := (12, [.ref 0, .int x1, .int x1, .int 0, .null], [], sM Ln I1 L1 c s)) rfl h (by omega)

theorem w_X10_watch_12 {Ln d c s : Nat} {I : Nat → Nat → Int32} {L : Nat → Nat → Int64} {Q : dd_O → Prop} {a1 a2 a3 : Int32} {a4 : Value} (hd : 28 ≤ d) (h : (((64 : Int32) ≤ a3 → Q (none, .int a2, sM Ln I L c s)) ∧ (¬ ((64 : Int32) ≤ a3) → dd_Ev (d - 1) m_J6_bitCount_0f7a4 [.int a3] (sM Ln I L c s) (dd_RI Ln c s (fun x1 I1 L1 => dd_Ev (d - 1) m_J6_bitCount_0f7a4 [.int a2] (sM Ln I1 L1 c s) (dd_RI Ln c s (fun x2 I2 L2 => ((x2 ≤ x1 → ((a3 &&& (a1 ^^^ (-1)) = 0 → dd_Rn d m_X10_watch (12, [.ref 0, .int a1, .int a2, .int (a3 + 1), .int 0], [], sM Ln I2 L2 c s) Q) ∧ (¬ (a3 &&& (a1 ^^^ (-1)) = 0) → dd_Rn d m_X10_watch (12, [.ref 0, .int a1, .int a2, .int (a3 + 1), .int 0], [], sM Ln I2 L2 c s) Q))) ∧ (¬ (x2 ≤ x1) → ((a3 &&& (a1 ^^^ (-1)) = 0 → dd_Ev (d - 1) m_X10_allWatched [.ref 0, .int a3, .int a1] (sM Ln I2 L2 c s) (dd_RI Ln c s (fun x3 I3 L3 => ((x3 = 0 → dd_Rn d m_X10_watch (12, [.ref 0, .int a1, .int a2, .int (a3 + 1), .int 1], [], sM Ln I3 L3 c s) Q) ∧ (¬ (x3 = 0) → dd_Rn d m_X10_watch (12, [.ref 0, .int a1, .int a3, .int (a3 + 1), .int 1], [], sM Ln I3 L3 c s) Q))))) ∧ (¬ (a3 &&& (a1 ^^^ (-1)) = 0) → dd_Rn d m_X10_watch (12, [.ref 0, .int a1, .int a2, .int (a3 + 1), .int 1], [], sM Ln I2 L2 c s) Q))))))))))) : dd_Rn d m_X10_watch (12, [.ref 0, .int a1, .int a2, .int a3, a4], [], sM Ln I L c s) Q := by
  obtain ⟨e, rfl⟩ : ∃ e, d = e + 16 := ⟨d - 16, by omega⟩
  refine dd_Rn.ite 2 (c := (64 : Int32) ≤ a3) (A := (66, [.ref 0, .int a1, .int a2, .int a3, a4], [], sM Ln I L c s)) (B := (18, [.ref 0, .int a1, .int a2, .int a3, a4], [], sM Ln I L c s)) rfl (fun hc => ?_) (fun hc => ?_) (by omega)
  · have h := h.1 hc
    exact dd_Rn.retK 1 (pc := 67) (ls := [.ref 0, .int a1, .int a2, .int a3, a4]) (st := [.int a2]) (M := sM Ln I L c s) (o := (none, .int a2, sM Ln I L c s)) rfl rfl h (by omega)
  · have h := h.2 hc
    refine dd_Rn.cI 1 (pc := 19) (ls := [.ref 0, .int a1, .int a2, .int a3, a4]) (st := [.int a3]) (x := m_J6_bitCount_0f7a4) (as := [.int a3]) (rest := []) rfl rfl rfl rfl h ?_
    intro x1 I1 L1 h
    show dd_Rn (e + 16) m_X10_watch (22, [.ref 0, .int a1, .int a2, .int a3, a4], [.int x1], sM Ln I1 L1 c s) _
    refine dd_Rn.cI 1 (pc := 23) (ls := [.ref 0, .int a1, .int a2, .int a3, a4]) (st := [.int a2, .int x1]) (x := m_J6_bitCount_0f7a4) (as := [.int a2]) (rest := [.int x1]) rfl rfl rfl rfl h ?_
    intro x2 I2 L2 h
    show dd_Rn (e + 16) m_X10_watch (26, [.ref 0, .int a1, .int a2, .int a3, a4], [.int x2, .int x1], sM Ln I2 L2 c s) _
    refine dd_Rn.ite 0 (c := x2 ≤ x1) (A := (33, [.ref 0, .int a1, .int a2, .int a3, a4], [], sM Ln I2 L2 c s)) (B := (29, [.ref 0, .int a1, .int a2, .int a3, a4], [], sM Ln I2 L2 c s)) rfl (fun hc => ?_) (fun hc => ?_) (by omega)
    · have h := h.1 hc
      refine dd_Rn.ite 7 (c := a3 &&& (a1 ^^^ (-1)) = 0) (A := (44, [.ref 0, .int a1, .int a2, .int a3, .int 0], [], sM Ln I2 L2 c s)) (B := (60, [.ref 0, .int a1, .int a2, .int a3, .int 0], [], sM Ln I2 L2 c s)) rfl (fun hc => ?_) (fun hc => ?_) (by omega)
      · have h := h.1 hc
        exact dd_Rn.go 4 (cf' := (12, [.ref 0, .int a1, .int a2, .int (a3 + 1), .int 0], [], sM Ln I2 L2 c s)) rfl h (by omega)
      · have h := h.2 hc
        exact dd_Rn.go 2 (cf' := (12, [.ref 0, .int a1, .int a2, .int (a3 + 1), .int 0], [], sM Ln I2 L2 c s)) rfl h (by omega)
    · have h := h.2 hc
      refine dd_Rn.ite 8 (c := a3 &&& (a1 ^^^ (-1)) = 0) (A := (44, [.ref 0, .int a1, .int a2, .int a3, .int 1], [], sM Ln I2 L2 c s)) (B := (60, [.ref 0, .int a1, .int a2, .int a3, .int 1], [], sM Ln I2 L2 c s)) rfl (fun hc => ?_) (fun hc => ?_) (by omega)
      · have h := h.1 hc
        refine dd_Rn.cI 5 (pc := 52) (ls := [.ref 0, .int a1, .int a2, .int a3, .int 1]) (st := [.int a1, .int a3, .ref 0]) (x := m_X10_allWatched) (as := [.ref 0, .int a3, .int a1]) (rest := []) rfl rfl rfl rfl h ?_
        intro x3 I3 L3 h
        show dd_Rn (e + 16) m_X10_watch (55, [.ref 0, .int a1, .int a2, .int a3, .int 1], [.int x3], sM Ln I3 L3 c s) _
        refine dd_Rn.ite 0 (c := x3 = 0) (A := (60, [.ref 0, .int a1, .int a2, .int a3, .int 1], [], sM Ln I3 L3 c s)) (B := (58, [.ref 0, .int a1, .int a2, .int a3, .int 1], [], sM Ln I3 L3 c s)) rfl (fun hc => ?_) (fun hc => ?_) (by omega)
        · have h := h.1 hc
          exact dd_Rn.go 2 (cf' := (12, [.ref 0, .int a1, .int a2, .int (a3 + 1), .int 1], [], sM Ln I3 L3 c s)) rfl h (by omega)
        · have h := h.2 hc
          exact dd_Rn.go 4 (cf' := (12, [.ref 0, .int a1, .int a3, .int (a3 + 1), .int 1], [], sM Ln I3 L3 c s)) rfl h (by omega)
      · have h := h.2 hc
        exact dd_Rn.go 2 (cf' := (12, [.ref 0, .int a1, .int a2, .int (a3 + 1), .int 1], [], sM Ln I2 L2 c s)) rfl h (by omega)

theorem w_X10_allWatched_0 {Ln d c s : Nat} {I : Nat → Nat → Int32} {L : Nat → Nat → Int64} {Q : dd_O → Prop} {a1 a2 : Int32} (hd : 28 ≤ d) (h : dd_Rn d m_X10_allWatched (2, [.ref 0, .int a1, .int a2, .int 0], [], sM Ln I L c s) Q) : dd_Ev d m_X10_allWatched [.ref 0, .int a1, .int a2] (sM Ln I L c s) Q := by
  obtain ⟨e, rfl⟩ : ∃ e, d = e + 16 := ⟨d - 16, by omega⟩
  show dd_Rn (e + 16) m_X10_allWatched (0, [.ref 0, .int a1, .int a2, .null], [], sM Ln I L c s) Q
  exact dd_Rn.go 2 (cf' := (2, [.ref 0, .int a1, .int a2, .int 0], [], sM Ln I L c s)) rfl h (by omega)

theorem w_X10_allWatched_2 {Ln d c s : Nat} {I : Nat → Nat → Int32} {L : Nat → Nat → Int64} {Q : dd_O → Prop} {a1 a2 a3 : Int32} (hd : 28 ≤ d) (h : ((I 1 10 ≤ a3 → Q (none, .int 1, sM Ln I L c s)) ∧ (¬ (I 1 10 ≤ a3) → (((a2 >>> (a3 &&& 31) : Int32) &&& (1 : Int32) = 0 → dd_Rn d m_X10_allWatched (2, [.ref 0, .int a1, .int a2, .int (a3 + 1)], [], sM Ln I L c s) Q) ∧ (¬ ((a2 >>> (a3 &&& 31) : Int32) &&& (1 : Int32) = 0) → dd_Ev (d - 1) m_X10_isWatched [.ref 0, .int a3, .int a1] (sM Ln I L c s) (dd_RI Ln c s (fun x1 I1 L1 => ((x1 = 0 → Q (none, .int 0, sM Ln I1 L1 c s)) ∧ (¬ (x1 = 0) → dd_Rn d m_X10_allWatched (2, [.ref 0, .int a1, .int a2, .int (a3 + 1)], [], sM Ln I1 L1 c s) Q))))))))) : dd_Rn d m_X10_allWatched (2, [.ref 0, .int a1, .int a2, .int a3], [], sM Ln I L c s) Q := by
  obtain ⟨e, rfl⟩ : ∃ e, d = e + 16 := ⟨d - 16, by omega⟩
  refine dd_Rn.ite 4 (c := I 1 10 ≤ a3) (A := (38, [.ref 0, .int a1, .int a2, .int a3], [], sM Ln I L c s)) (B := (13, [.ref 0, .int a1, .int a2, .int a3], [], sM Ln I L c s)) rfl (fun hc => ?_) (fun hc => ?_) (by omega)
  · have h := h.1 hc
    exact dd_Rn.retK 1 (pc := 39) (ls := [.ref 0, .int a1, .int a2, .int a3]) (st := [.int 1]) (M := sM Ln I L c s) (o := (none, .int 1, sM Ln I L c s)) rfl rfl h (by omega)
  · have h := h.2 hc
    refine dd_Rn.ite 5 (c := (a2 >>> (a3 &&& 31) : Int32) &&& (1 : Int32) = 0) (A := (32, [.ref 0, .int a1, .int a2, .int a3], [], sM Ln I L c s)) (B := (21, [.ref 0, .int a1, .int a2, .int a3], [], sM Ln I L c s)) rfl (fun hc => ?_) (fun hc => ?_) (by omega)
    · have h := h.1 hc
      exact dd_Rn.go 2 (cf' := (2, [.ref 0, .int a1, .int a2, .int (a3 + 1)], [], sM Ln I L c s)) rfl h (by omega)
    · have h := h.2 hc
      refine dd_Rn.cI 3 (pc := 24) (ls := [.ref 0, .int a1, .int a2, .int a3]) (st := [.int a1, .int a3, .ref 0]) (x := m_X10_isWatched) (as := [.ref 0, .int a3, .int a1]) (rest := []) rfl rfl rfl rfl h ?_
      intro x1 I1 L1 h
      show dd_Rn (e + 16) m_X10_allWatched (27, [.ref 0, .int a1, .int a2, .int a3], [.int x1], sM Ln I1 L1 c s) _
      refine dd_Rn.ite 0 (c := x1 = 0) (A := (30, [.ref 0, .int a1, .int a2, .int a3], [], sM Ln I1 L1 c s)) (B := (32, [.ref 0, .int a1, .int a2, .int a3], [], sM Ln I1 L1 c s)) rfl (fun hc => ?_) (fun hc => ?_) (by omega)
      · have h := h.1 hc
        exact dd_Rn.retK 1 (pc := 31) (ls := [.ref 0, .int a1, .int a2, .int a3]) (st := [.int 0]) (M := sM Ln I1 L1 c s) (o := (none, .int 0, sM Ln I1 L1 c s)) rfl rfl h (by omega)
      · have h := h.2 hc
        exact dd_Rn.go 2 (cf' := (2, [.ref 0, .int a1, .int a2, .int (a3 + 1)], [], sM Ln I1 L1 c s)) rfl h (by omega)

theorem w_X10_isWatched_0 {Ln d c s : Nat} {I : Nat → Nat → Int32} {L : Nat → Nat → Int64} {Q : dd_O → Prop} {a1 a2 : Int32} (hd : 28 ≤ d) (h : dd_Rn d m_X10_isWatched (2, [.ref 0, .int a1, .int a2, .int 0, .null], [], sM Ln I L c s) Q) : dd_Ev d m_X10_isWatched [.ref 0, .int a1, .int a2] (sM Ln I L c s) Q := by
  obtain ⟨e, rfl⟩ : ∃ e, d = e + 16 := ⟨d - 16, by omega⟩
  show dd_Rn (e + 16) m_X10_isWatched (0, [.ref 0, .int a1, .int a2, .null, .null], [], sM Ln I L c s) Q
  exact dd_Rn.go 2 (cf' := (2, [.ref 0, .int a1, .int a2, .int 0, .null], [], sM Ln I L c s)) rfl h (by omega)

theorem w_X10_isWatched_2 {Ln d c s : Nat} {I : Nat → Nat → Int32} {L : Nat → Nat → Int64} {Q : dd_O → Prop} {a1 a2 a3 : Int32} {a4 : Value} (hd : 28 ≤ d) (h : ((I 1 10 ≤ a3 → Q (none, .int 0, sM Ln I L c s)) ∧ (¬ (I 1 10 ≤ a3) → (((a2 >>> (a3 &&& 31) : Int32) &&& (1 : Int32) = 0 → dd_Rn d m_X10_isWatched (2, [.ref 0, .int a1, .int a2, .int (a3 + 1), .int 0], [], sM Ln I L c s) Q) ∧ (¬ ((a2 >>> (a3 &&& 31) : Int32) &&& (1 : Int32) = 0) → ((0 ≤ a1 ∧ tn a1 < 6) ∧ ((0 ≤ a3 ∧ tn a3 < 6) ∧ dd_Ev (d - 1) m_X8_apart [.int (I 4 (tn a1)), .int (I 4 (tn a3))] (sM Ln I L c s) (dd_RI Ln c s (fun x1 I1 L1 => (((3 : Int32) < x1 → dd_Rn d m_X10_isWatched (2, [.ref 0, .int a1, .int a2, .int (a3 + 1), .int 1], [], sM Ln I1 L1 c s) Q) ∧ (¬ ((3 : Int32) < x1) → Q (none, .int 1, sM Ln I1 L1 c s)))))))))))) : dd_Rn d m_X10_isWatched (2, [.ref 0, .int a1, .int a2, .int a3, a4], [], sM Ln I L c s) Q := by
  obtain ⟨e, rfl⟩ : ∃ e, d = e + 16 := ⟨d - 16, by omega⟩
  refine dd_Rn.ite 4 (c := I 1 10 ≤ a3) (A := (66, [.ref 0, .int a1, .int a2, .int a3, a4], [], sM Ln I L c s)) (B := (13, [.ref 0, .int a1, .int a2, .int a3, a4], [], sM Ln I L c s)) rfl (fun hc => ?_) (fun hc => ?_) (by omega)
  · have h := h.1 hc
    exact dd_Rn.retK 1 (pc := 67) (ls := [.ref 0, .int a1, .int a2, .int a3, a4]) (st := [.int 0]) (M := sM Ln I L c s) (o := (none, .int 0, sM Ln I L c s)) rfl rfl h (by omega)
  · have h := h.2 hc
    refine dd_Rn.ite 5 (c := (a2 >>> (a3 &&& 31) : Int32) &&& (1 : Int32) = 0) (A := (25, [.ref 0, .int a1, .int a2, .int a3, a4], [], sM Ln I L c s)) (B := (21, [.ref 0, .int a1, .int a2, .int a3, a4], [], sM Ln I L c s)) rfl (fun hc => ?_) (fun hc => ?_) (by omega)
    · have h := h.1 hc
      exact dd_Rn.go 6 (cf' := (2, [.ref 0, .int a1, .int a2, .int (a3 + 1), .int 0], [], sM Ln I L c s)) rfl h (by omega)
    · have h := h.2 hc
      obtain ⟨hc, h⟩ := h
      refine dd_Rn.chk 9 (c := 0 ≤ a1 ∧ tn a1 < 6) (A := (42, [.ref 0, .int a1, .int a2, .int a3, .int 1], [.int (I 4 (tn a1))], sM Ln I L c s)) rfl hc ?_ (by omega)
      obtain ⟨hc, h⟩ := h
      refine dd_Rn.chk 4 (c := 0 ≤ a3 ∧ tn a3 < 6) (A := (51, [.ref 0, .int a1, .int a2, .int a3, .int 1], [.int (I 4 (tn a3)), .int (I 4 (tn a1))], sM Ln I L c s)) rfl hc ?_ (by omega)
      refine dd_Rn.cI 0 (pc := 51) (ls := [.ref 0, .int a1, .int a2, .int a3, .int 1]) (st := [.int (I 4 (tn a3)), .int (I 4 (tn a1))]) (x := m_X8_apart) (as := [.int (I 4 (tn a1)), .int (I 4 (tn a3))]) (rest := []) rfl rfl rfl rfl h ?_
      intro x1 I1 L1 h
      show dd_Rn (e + 16) m_X10_isWatched (54, [.ref 0, .int a1, .int a2, .int a3, .int 1], [.int x1], sM Ln I1 L1 c s) _
      refine dd_Rn.ite 1 (c := (3 : Int32) < x1) (A := (60, [.ref 0, .int a1, .int a2, .int a3, .int 1], [], sM Ln I1 L1 c s)) (B := (58, [.ref 0, .int a1, .int a2, .int a3, .int 1], [], sM Ln I1 L1 c s)) rfl (fun hc => ?_) (fun hc => ?_) (by omega)
      · have h := h.1 hc
        exact dd_Rn.go 2 (cf' := (2, [.ref 0, .int a1, .int a2, .int (a3 + 1), .int 1], [], sM Ln I1 L1 c s)) rfl h (by omega)
      · have h := h.2 hc
        exact dd_Rn.retK 1 (pc := 59) (ls := [.ref 0, .int a1, .int a2, .int a3, .int 1]) (st := [.int 1]) (M := sM Ln I1 L1 c s) (o := (none, .int 1, sM Ln I1 L1 c s)) rfl rfl h (by omega)

theorem w_X10_clearings_0 {Ln d c s : Nat} {I : Nat → Nat → Int32} {L : Nat → Nat → Int64} {Q : dd_O → Prop} (hd : 28 ≤ d) (h : dd_Ev (d - 1) m_X7_pieces [.ref 139] (sM Ln I L c s) (dd_RI Ln c s (fun x1 I1 L1 => Q (none, .int x1, sM Ln I1 L1 c s)))) : dd_Ev d m_X10_clearings [.ref 0] (sM Ln I L c s) Q := by
  obtain ⟨e, rfl⟩ : ∃ e, d = e + 16 := ⟨d - 16, by omega⟩
  show dd_Rn (e + 16) m_X10_clearings (0, [.ref 0], [], sM Ln I L c s) Q
  refine dd_Rn.cI 2 (pc := 4) (ls := [.ref 0]) (st := [.ref 139]) (x := m_X7_pieces) (as := [.ref 139]) (rest := []) rfl rfl rfl rfl h ?_
  intro x1 I1 L1 h
  show dd_Rn (e + 16) m_X10_clearings (7, [.ref 0], [.int x1], sM Ln I1 L1 c s) _
  exact dd_Rn.retK 0 (pc := 7) (ls := [.ref 0]) (st := [.int x1]) (M := sM Ln I1 L1 c s) (o := (none, .int x1, sM Ln I1 L1 c s)) rfl rfl h (by omega)

theorem w_X10_splits_0 {Ln d c s : Nat} {I : Nat → Nat → Int32} {L : Nat → Nat → Int64} {Q : dd_O → Prop} (hd : 28 ≤ d) (h : dd_Ev (d - 1) m_X7_partingCells [.ref 139] (sM Ln I L c s) (dd_RI Ln c s (fun x1 I1 L1 => Q (none, .int x1, sM Ln I1 L1 c s)))) : dd_Ev d m_X10_splits [.ref 0] (sM Ln I L c s) Q := by
  obtain ⟨e, rfl⟩ : ∃ e, d = e + 16 := ⟨d - 16, by omega⟩
  show dd_Rn (e + 16) m_X10_splits (0, [.ref 0], [], sM Ln I L c s) Q
  refine dd_Rn.cI 2 (pc := 4) (ls := [.ref 0]) (st := [.ref 139]) (x := m_X7_partingCells) (as := [.ref 139]) (rest := []) rfl rfl rfl rfl h ?_
  intro x1 I1 L1 h
  show dd_Rn (e + 16) m_X10_splits (7, [.ref 0], [.int x1], sM Ln I1 L1 c s) _
  exact dd_Rn.retK 0 (pc := 7) (ls := [.ref 0]) (st := [.int x1]) (M := sM Ln I1 L1 c s) (o := (none, .int x1, sM Ln I1 L1 c s)) rfl rfl h (by omega)

theorem w_X10_rests_0 {Ln d c s : Nat} {I : Nat → Nat → Int32} {L : Nat → Nat → Int64} {Q : dd_O → Prop} {a1 : Int32} (hd : 28 ≤ d) (h : ((a1 < 0 → Q (some 2, .null, sM Ln I L (c + 1) (s + 6))) ∧ (¬ (a1 < 0) → ((a1 < I 1 10 → dd_Ev (d - 1) m_X8_isIn [.ref 1, .int a1] (sM Ln I L c s) (dd_RI Ln c s (fun x1 I1 L1 => ((x1 = 0 → ((0 ≤ a1 ∧ tn a1 < 6) ∧ dd_Ev (d - 1) m_X8_nearOf [.ref 1, .int (I1 4 (tn a1))] (sM Ln I1 L1 c s) (dd_RI Ln c s (fun x2 I2 L2 => dd_Rn d m_X10_rests (40, [.ref 0, .int a1, .int x2, .int 0, .int 0, .null, .null, .null], [], sM Ln I2 L2 c s) Q)))) ∧ (¬ (x1 = 0) → Q (none, .int (-1), sM Ln I1 L1 c s)))))) ∧ (¬ (a1 < I 1 10) → Q (some 2, .null, sM Ln I L (c + 1) (s + 6))))))) : dd_Ev d m_X10_rests [.ref 0, .int a1] (sM Ln I L c s) Q := by
  obtain ⟨e, rfl⟩ : ∃ e, d = e + 16 := ⟨d - 16, by omega⟩
  show dd_Rn (e + 16) m_X10_rests (0, [.ref 0, .int a1, .null, .null, .null, .null, .null, .null], [], sM Ln I L c s) Q
  refine dd_Rn.sub 2 (pc := 2) (ls := [.ref 0, .int a1, .null, .null, .null, .null, .null, .null]) (st := [.int a1, .ref 0]) (M := sM Ln I L c s) (x := m_X10_requireBoy) (as := [.ref 0, .int a1]) (rest := []) rfl rfl rfl rfl ?_
  show dd_Rn (e + 15) m_X10_requireBoy (0, [.ref 0, .int a1], [], sM Ln I L c s) _
  refine dd_Rn.ite 1 (c := a1 < 0) (A := (15, [.ref 0, .int a1], [], sM Ln I L c s)) (B := (4, [.ref 0, .int a1], [], sM Ln I L c s)) rfl (fun hc => ?_) (fun hc => ?_) (by omega)
  · have h := h.1 hc
    exact dd_Rn.throw 0 (pc := 15) (ls := [.ref 0, .int a1]) (st := []) (M := sM Ln I L c s) rfl rfl rfl (by omega) rfl (dd_Af.thr rfl rfl rfl h)
  · have h := h.2 hc
    refine dd_Rn.ite 4 (c := a1 < I 1 10) (A := (25, [.ref 0, .int a1], [], sM Ln I L c s)) (B := (15, [.ref 0, .int a1], [], sM Ln I L c s)) rfl (fun hc => ?_) (fun hc => ?_) (by omega)
    · have h := h.1 hc
      refine dd_Rn.retK 0 (pc := 25) (ls := [.ref 0, .int a1]) (st := []) (M := sM Ln I L c s) (o := (none, .null, sM Ln I L c s)) rfl rfl (dd_Af.ret rfl ?_) (by omega)
      show dd_Rn (e + 16) m_X10_rests (5, [.ref 0, .int a1, .null, .null, .null, .null, .null, .null], [], sM Ln I L c s) _
      refine dd_Rn.cI 3 (pc := 10) (ls := [.ref 0, .int a1, .null, .null, .null, .null, .null, .null]) (st := [.int a1, .ref 1]) (x := m_X8_isIn) (as := [.ref 1, .int a1]) (rest := []) rfl rfl rfl rfl h ?_
      intro x1 I1 L1 h
      show dd_Rn (e + 16) m_X10_rests (13, [.ref 0, .int a1, .null, .null, .null, .null, .null, .null], [.int x1], sM Ln I1 L1 c s) _
      refine dd_Rn.ite 0 (c := x1 = 0) (A := (18, [.ref 0, .int a1, .null, .null, .null, .null, .null, .null], [], sM Ln I1 L1 c s)) (B := (16, [.ref 0, .int a1, .null, .null, .null, .null, .null, .null], [], sM Ln I1 L1 c s)) rfl (fun hc => ?_) (fun hc => ?_) (by omega)
      · have h := h.1 hc
        obtain ⟨hc, h⟩ := h
        refine dd_Rn.chk 6 (c := 0 ≤ a1 ∧ tn a1 < 6) (A := (31, [.ref 0, .int a1, .null, .null, .null, .null, .null, .null], [.int (I1 4 (tn a1)), .ref 1], sM Ln I1 L1 c s)) rfl hc ?_ (by omega)
        refine dd_Rn.cI 0 (pc := 31) (ls := [.ref 0, .int a1, .null, .null, .null, .null, .null, .null]) (st := [.int (I1 4 (tn a1)), .ref 1]) (x := m_X8_nearOf) (as := [.ref 1, .int (I1 4 (tn a1))]) (rest := []) rfl rfl rfl rfl h ?_
        intro x2 I2 L2 h
        show dd_Rn (e + 16) m_X10_rests (34, [.ref 0, .int a1, .null, .null, .null, .null, .null, .null], [.int x2], sM Ln I2 L2 c s) _
        exact dd_Rn.go 5 (cf' := (40, [.ref 0, .int a1, .int x2, .int 0, .int 0, .null, .null, .null], [], sM Ln I2 L2 c s)) rfl h (by omega)
      · have h := h.2 hc
        exact dd_Rn.retK 1 (pc := 17) (ls := [.ref 0, .int a1, .null, .null, .null, .null, .null, .null]) (st := [.int (-1)]) (M := sM Ln I1 L1 c s) (o := (none, .int (-1), sM Ln I1 L1 c s)) rfl rfl h (by omega)
    · have h := h.2 hc
      exact dd_Rn.throw 0 (pc := 15) (ls := [.ref 0, .int a1]) (st := []) (M := sM Ln I L c s) rfl rfl rfl (by omega) rfl (dd_Af.thr rfl rfl rfl h)

theorem w_X10_rests_40 {Ln d c s : Nat} {I : Nat → Nat → Int32} {L : Nat → Nat → Int64} {Q : dd_O → Prop} {a1 a2 a3 a4 : Int32} {a5 a6 a7 : Value} (hd : 28 ≤ d) (h : (((2 : Int32) ≤ a4 → Q (none, .int a3, sM Ln I L c s)) ∧ (¬ ((2 : Int32) ≤ a4) → dd_Rn d m_X10_rests (49, [.ref 0, .int a1, .int a2, .int a3, .int a4, .int 0, a6, a7], [], sM Ln I L c s) Q))) : dd_Rn d m_X10_rests (40, [.ref 0, .int a1, .int a2, .int a3, .int a4, a5, a6, a7], [], sM Ln I L c s) Q := by
  obtain ⟨e, rfl⟩ : ∃ e, d = e + 16 := ⟨d - 16, by omega⟩
  refine dd_Rn.ite 2 (c := (2 : Int32) ≤ a4) (A := (143, [.ref 0, .int a1, .int a2, .int a3, .int a4, a5, a6, a7], [], sM Ln I L c s)) (B := (46, [.ref 0, .int a1, .int a2, .int a3, .int a4, a5, a6, a7], [], sM Ln I L c s)) rfl (fun hc => ?_) (fun hc => ?_) (by omega)
  · have h := h.1 hc
    exact dd_Rn.retK 1 (pc := 144) (ls := [.ref 0, .int a1, .int a2, .int a3, .int a4, a5, a6, a7]) (st := [.int a3]) (M := sM Ln I L c s) (o := (none, .int a3, sM Ln I L c s)) rfl rfl h (by omega)
  · have h := h.2 hc
    exact dd_Rn.go 2 (cf' := (49, [.ref 0, .int a1, .int a2, .int a3, .int a4, .int 0, a6, a7], [], sM Ln I L c s)) rfl h (by omega)

theorem w_X10_rests_49 {Ln d c s : Nat} {I : Nat → Nat → Int32} {L : Nat → Nat → Int64} {Q : dd_O → Prop} {a1 a2 a3 a4 a5 : Int32} {a6 a7 : Value} (hd : 28 ≤ d) (h : (((2 : Int32) ≤ a5 → dd_Rn d m_X10_rests (40, [.ref 0, .int a1, .int a2, .int a3, .int (a4 + 1), .int a5, a6, a7], [], sM Ln I L c s) Q) ∧ (¬ ((2 : Int32) ≤ a5) → ((a4 = 0 → ((a5 = 0 → (((1 : Int32) - a4 = 0 → ((a5 = 0 → (((9 : Int32) - a2 < (9 : Int32) - a2 → dd_Rn d m_X10_rests (81, [.ref 0, .int a1, .int a2, .int a3, .int a4, .int a5, a6, a7], [.int 0], sM Ln I L c s) Q) ∧ (¬ ((9 : Int32) - a2 < (9 : Int32) - a2) → dd_Rn d m_X10_rests (81, [.ref 0, .int a1, .int a2, .int a3, .int a4, .int a5, a6, a7], [.int 1], sM Ln I L c s) Q))) ∧ (¬ (a5 = 0) → (((9 : Int32) - a2 < (-3) → dd_Rn d m_X10_rests (81, [.ref 0, .int a1, .int a2, .int a3, .int a4, .int a5, a6, a7], [.int 0], sM Ln I L c s) Q) ∧ (¬ ((9 : Int32) - a2 < (-3)) → dd_Rn d m_X10_rests (81, [.ref 0, .int a1, .int a2, .int a3, .int a4, .int a5, a6, a7], [.int 1], sM Ln I L c s) Q))))) ∧ (¬ ((1 : Int32) - a4 = 0) → ((a5 = 0 → (((9 : Int32) - a2 < 1 → dd_Rn d m_X10_rests (81, [.ref 0, .int a1, .int a2, .int a3, .int a4, .int a5, a6, a7], [.int 0], sM Ln I L c s) Q) ∧ (¬ ((9 : Int32) - a2 < 1) → dd_Rn d m_X10_rests (81, [.ref 0, .int a1, .int a2, .int a3, .int a4, .int a5, a6, a7], [.int 1], sM Ln I L c s) Q))) ∧ (¬ (a5 = 0) → (((9 : Int32) - a2 < 0 → dd_Rn d m_X10_rests (81, [.ref 0, .int a1, .int a2, .int a3, .int a4, .int a5, a6, a7], [.int 0], sM Ln I L c s) Q) ∧ (¬ ((9 : Int32) - a2 < 0) → dd_Rn d m_X10_rests (81, [.ref 0, .int a1, .int a2, .int a3, .int a4, .int a5, a6, a7], [.int 1], sM Ln I L c s) Q))))))) ∧ (¬ (a5 = 0) → (((1 : Int32) - a4 = 0 → ((a5 = 0 → (((-3 : Int32) < (9 : Int32) - a2 → dd_Rn d m_X10_rests (81, [.ref 0, .int a1, .int a2, .int a3, .int a4, .int a5, a6, a7], [.int 0], sM Ln I L c s) Q) ∧ (¬ ((-3 : Int32) < (9 : Int32) - a2) → dd_Rn d m_X10_rests (81, [.ref 0, .int a1, .int a2, .int a3, .int a4, .int a5, a6, a7], [.int 1], sM Ln I L c s) Q))) ∧ (¬ (a5 = 0) → dd_Rn d m_X10_rests (81, [.ref 0, .int a1, .int a2, .int a3, .int a4, .int a5, a6, a7], [.int 1], sM Ln I L c s) Q))) ∧ (¬ ((1 : Int32) - a4 = 0) → ((a5 = 0 → dd_Rn d m_X10_rests (81, [.ref 0, .int a1, .int a2, .int a3, .int a4, .int a5, a6, a7], [.int 0], sM Ln I L c s) Q) ∧ (¬ (a5 = 0) → dd_Rn d m_X10_rests (81, [.ref 0, .int a1, .int a2, .int a3, .int a4, .int a5, a6, a7], [.int 0], sM Ln I L c s) Q))))))) ∧ (¬ (a4 = 0) → ((a5 = 0 → (((1 : Int32) - a4 = 0 → ((a5 = 0 → (((1 : Int32) < (9 : Int32) - a2 → dd_Rn d m_X10_rests (81, [.ref 0, .int a1, .int a2, .int a3, .int a4, .int a5, a6, a7], [.int 0], sM Ln I L c s) Q) ∧ (¬ ((1 : Int32) < (9 : Int32) - a2) → dd_Rn d m_X10_rests (81, [.ref 0, .int a1, .int a2, .int a3, .int a4, .int a5, a6, a7], [.int 1], sM Ln I L c s) Q))) ∧ (¬ (a5 = 0) → dd_Rn d m_X10_rests (81, [.ref 0, .int a1, .int a2, .int a3, .int a4, .int a5, a6, a7], [.int 1], sM Ln I L c s) Q))) ∧ (¬ ((1 : Int32) - a4 = 0) → ((a5 = 0 → dd_Rn d m_X10_rests (81, [.ref 0, .int a1, .int a2, .int a3, .int a4, .int a5, a6, a7], [.int 1], sM Ln I L c s) Q) ∧ (¬ (a5 = 0) → dd_Rn d m_X10_rests (81, [.ref 0, .int a1, .int a2, .int a3, .int a4, .int a5, a6, a7], [.int 1], sM Ln I L c s) Q))))) ∧ (¬ (a5 = 0) → (((1 : Int32) - a4 = 0 → ((a5 = 0 → (((0 : Int32) < (9 : Int32) - a2 → dd_Rn d m_X10_rests (81, [.ref 0, .int a1, .int a2, .int a3, .int a4, .int a5, a6, a7], [.int 0], sM Ln I L c s) Q) ∧ (¬ ((0 : Int32) < (9 : Int32) - a2) → dd_Rn d m_X10_rests (81, [.ref 0, .int a1, .int a2, .int a3, .int a4, .int a5, a6, a7], [.int 1], sM Ln I L c s) Q))) ∧ (¬ (a5 = 0) → dd_Rn d m_X10_rests (81, [.ref 0, .int a1, .int a2, .int a3, .int a4, .int a5, a6, a7], [.int 1], sM Ln I L c s) Q))) ∧ (¬ ((1 : Int32) - a4 = 0) → ((a5 = 0 → dd_Rn d m_X10_rests (81, [.ref 0, .int a1, .int a2, .int a3, .int a4, .int a5, a6, a7], [.int 0], sM Ln I L c s) Q) ∧ (¬ (a5 = 0) → dd_Rn d m_X10_rests (81, [.ref 0, .int a1, .int a2, .int a3, .int a4, .int a5, a6, a7], [.int 1], sM Ln I L c s) Q))))))))))) : dd_Rn d m_X10_rests (49, [.ref 0, .int a1, .int a2, .int a3, .int a4, .int a5, a6, a7], [], sM Ln I L c s) Q := by
  obtain ⟨e, rfl⟩ : ∃ e, d = e + 16 := ⟨d - 16, by omega⟩
  refine dd_Rn.ite 2 (c := (2 : Int32) ≤ a5) (A := (137, [.ref 0, .int a1, .int a2, .int a3, .int a4, .int a5, a6, a7], [], sM Ln I L c s)) (B := (55, [.ref 0, .int a1, .int a2, .int a3, .int a4, .int a5, a6, a7], [], sM Ln I L c s)) rfl (fun hc => ?_) (fun hc => ?_) (by omega)
  · have h := h.1 hc
    exact dd_Rn.go 2 (cf' := (40, [.ref 0, .int a1, .int a2, .int a3, .int (a4 + 1), .int a5, a6, a7], [], sM Ln I L c s)) rfl h (by omega)
  · have h := h.2 hc
    refine dd_Rn.sub 3 (pc := 60) (ls := [.ref 0, .int a1, .int a2, .int a3, .int a4, .int a5, a6, a7]) (st := [.int a2, .int a5, .int a4]) (M := sM Ln I L c s) (x := m_X10_hisGain) (as := [.int a4, .int a5, .int a2]) (rest := []) rfl rfl rfl rfl ?_
    show dd_Rn (e + 15) m_X10_hisGain (0, [.int a4, .int a5, .int a2], [], sM Ln I L c s) _
    refine dd_Rn.ite 1 (c := a4 = 0) (A := (4, [.int a4, .int a5, .int a2], [], sM Ln I L c s)) (B := (18, [.int a4, .int a5, .int a2], [], sM Ln I L c s)) rfl (fun hc => ?_) (fun hc => ?_) (by omega)
    · have h := h.1 hc
      refine dd_Rn.ite 1 (c := a5 = 0) (A := (8, [.int a4, .int a5, .int a2], [], sM Ln I L c s)) (B := (15, [.int a4, .int a5, .int a2], [], sM Ln I L c s)) rfl (fun hc => ?_) (fun hc => ?_) (by omega)
      · have h := h.1 hc
        refine dd_Rn.retK 4 (pc := 17) (ls := [.int a4, .int a5, .int a2]) (st := [.int ((9 : Int32) - a2)]) (M := sM Ln I L c s) (o := (none, .int ((9 : Int32) - a2), sM Ln I L c s)) rfl rfl (dd_Af.ret rfl ?_) (by omega)
        show dd_Rn (e + 16) m_X10_rests (63, [.ref 0, .int a1, .int a2, .int a3, .int a4, .int a5, a6, a7], [.int ((9 : Int32) - a2)], sM Ln I L c s) _
        refine dd_Rn.sub 5 (pc := 70) (ls := [.ref 0, .int a1, .int a2, .int a3, .int a4, .int a5, a6, a7]) (st := [.int a2, .int a5, .int ((1 : Int32) - a4), .int ((9 : Int32) - a2)]) (M := sM Ln I L c s) (x := m_X10_hisGain) (as := [.int ((1 : Int32) - a4), .int a5, .int a2]) (rest := [.int ((9 : Int32) - a2)]) rfl rfl rfl rfl ?_
        show dd_Rn (e + 15) m_X10_hisGain (0, [.int ((1 : Int32) - a4), .int a5, .int a2], [], sM Ln I L c s) _
        refine dd_Rn.ite 1 (c := (1 : Int32) - a4 = 0) (A := (4, [.int ((1 : Int32) - a4), .int a5, .int a2], [], sM Ln I L c s)) (B := (18, [.int ((1 : Int32) - a4), .int a5, .int a2], [], sM Ln I L c s)) rfl (fun hc => ?_) (fun hc => ?_) (by omega)
        · have h := h.1 hc
          refine dd_Rn.ite 1 (c := a5 = 0) (A := (8, [.int ((1 : Int32) - a4), .int a5, .int a2], [], sM Ln I L c s)) (B := (15, [.int ((1 : Int32) - a4), .int a5, .int a2], [], sM Ln I L c s)) rfl (fun hc => ?_) (fun hc => ?_) (by omega)
          · have h := h.1 hc
            refine dd_Rn.retK 4 (pc := 17) (ls := [.int ((1 : Int32) - a4), .int a5, .int a2]) (st := [.int ((9 : Int32) - a2)]) (M := sM Ln I L c s) (o := (none, .int ((9 : Int32) - a2), sM Ln I L c s)) rfl rfl (dd_Af.ret rfl ?_) (by omega)
            show dd_Rn (e + 16) m_X10_rests (73, [.ref 0, .int a1, .int a2, .int a3, .int a4, .int a5, a6, a7], [.int ((9 : Int32) - a2), .int ((9 : Int32) - a2)], sM Ln I L c s) _
            refine dd_Rn.ite 0 (c := (9 : Int32) - a2 < (9 : Int32) - a2) (A := (80, [.ref 0, .int a1, .int a2, .int a3, .int a4, .int a5, a6, a7], [], sM Ln I L c s)) (B := (76, [.ref 0, .int a1, .int a2, .int a3, .int a4, .int a5, a6, a7], [], sM Ln I L c s)) rfl (fun hc => ?_) (fun hc => ?_) (by omega)
            · have h := h.1 hc
              exact dd_Rn.go 1 (cf' := (81, [.ref 0, .int a1, .int a2, .int a3, .int a4, .int a5, a6, a7], [.int 0], sM Ln I L c s)) rfl h (by omega)
            · have h := h.2 hc
              exact dd_Rn.go 2 (cf' := (81, [.ref 0, .int a1, .int a2, .int a3, .int a4, .int a5, a6, a7], [.int 1], sM Ln I L c s)) rfl h (by omega)
          · have h := h.2 hc
            refine dd_Rn.retK 1 (pc := 17) (ls := [.int ((1 : Int32) - a4), .int a5, .int a2]) (st := [.int (-3)]) (M := sM Ln I L c s) (o := (none, .int (-3), sM Ln I L c s)) rfl rfl (dd_Af.ret rfl ?_) (by omega)
            show dd_Rn (e + 16) m_X10_rests (73, [.ref 0, .int a1, .int a2, .int a3, .int a4, .int a5, a6, a7], [.int (-3), .int ((9 : Int32) - a2)], sM Ln I L c s) _
            refine dd_Rn.ite 0 (c := (9 : Int32) - a2 < (-3)) (A := (80, [.ref 0, .int a1, .int a2, .int a3, .int a4, .int a5, a6, a7], [], sM Ln I L c s)) (B := (76, [.ref 0, .int a1, .int a2, .int a3, .int a4, .int a5, a6, a7], [], sM Ln I L c s)) rfl (fun hc => ?_) (fun hc => ?_) (by omega)
            · have h := h.1 hc
              exact dd_Rn.go 1 (cf' := (81, [.ref 0, .int a1, .int a2, .int a3, .int a4, .int a5, a6, a7], [.int 0], sM Ln I L c s)) rfl h (by omega)
            · have h := h.2 hc
              exact dd_Rn.go 2 (cf' := (81, [.ref 0, .int a1, .int a2, .int a3, .int a4, .int a5, a6, a7], [.int 1], sM Ln I L c s)) rfl h (by omega)
        · have h := h.2 hc
          refine dd_Rn.ite 1 (c := a5 = 0) (A := (22, [.int ((1 : Int32) - a4), .int a5, .int a2], [], sM Ln I L c s)) (B := (26, [.int ((1 : Int32) - a4), .int a5, .int a2], [], sM Ln I L c s)) rfl (fun hc => ?_) (fun hc => ?_) (by omega)
          · have h := h.1 hc
            refine dd_Rn.retK 2 (pc := 27) (ls := [.int ((1 : Int32) - a4), .int a5, .int a2]) (st := [.int 1]) (M := sM Ln I L c s) (o := (none, .int 1, sM Ln I L c s)) rfl rfl (dd_Af.ret rfl ?_) (by omega)
            show dd_Rn (e + 16) m_X10_rests (73, [.ref 0, .int a1, .int a2, .int a3, .int a4, .int a5, a6, a7], [.int 1, .int ((9 : Int32) - a2)], sM Ln I L c s) _
            refine dd_Rn.ite 0 (c := (9 : Int32) - a2 < 1) (A := (80, [.ref 0, .int a1, .int a2, .int a3, .int a4, .int a5, a6, a7], [], sM Ln I L c s)) (B := (76, [.ref 0, .int a1, .int a2, .int a3, .int a4, .int a5, a6, a7], [], sM Ln I L c s)) rfl (fun hc => ?_) (fun hc => ?_) (by omega)
            · have h := h.1 hc
              exact dd_Rn.go 1 (cf' := (81, [.ref 0, .int a1, .int a2, .int a3, .int a4, .int a5, a6, a7], [.int 0], sM Ln I L c s)) rfl h (by omega)
            · have h := h.2 hc
              exact dd_Rn.go 2 (cf' := (81, [.ref 0, .int a1, .int a2, .int a3, .int a4, .int a5, a6, a7], [.int 1], sM Ln I L c s)) rfl h (by omega)
          · have h := h.2 hc
            refine dd_Rn.retK 1 (pc := 27) (ls := [.int ((1 : Int32) - a4), .int a5, .int a2]) (st := [.int 0]) (M := sM Ln I L c s) (o := (none, .int 0, sM Ln I L c s)) rfl rfl (dd_Af.ret rfl ?_) (by omega)
            show dd_Rn (e + 16) m_X10_rests (73, [.ref 0, .int a1, .int a2, .int a3, .int a4, .int a5, a6, a7], [.int 0, .int ((9 : Int32) - a2)], sM Ln I L c s) _
            refine dd_Rn.ite 0 (c := (9 : Int32) - a2 < 0) (A := (80, [.ref 0, .int a1, .int a2, .int a3, .int a4, .int a5, a6, a7], [], sM Ln I L c s)) (B := (76, [.ref 0, .int a1, .int a2, .int a3, .int a4, .int a5, a6, a7], [], sM Ln I L c s)) rfl (fun hc => ?_) (fun hc => ?_) (by omega)
            · have h := h.1 hc
              exact dd_Rn.go 1 (cf' := (81, [.ref 0, .int a1, .int a2, .int a3, .int a4, .int a5, a6, a7], [.int 0], sM Ln I L c s)) rfl h (by omega)
            · have h := h.2 hc
              exact dd_Rn.go 2 (cf' := (81, [.ref 0, .int a1, .int a2, .int a3, .int a4, .int a5, a6, a7], [.int 1], sM Ln I L c s)) rfl h (by omega)
      · have h := h.2 hc
        refine dd_Rn.retK 1 (pc := 17) (ls := [.int a4, .int a5, .int a2]) (st := [.int (-3)]) (M := sM Ln I L c s) (o := (none, .int (-3), sM Ln I L c s)) rfl rfl (dd_Af.ret rfl ?_) (by omega)
        show dd_Rn (e + 16) m_X10_rests (63, [.ref 0, .int a1, .int a2, .int a3, .int a4, .int a5, a6, a7], [.int (-3)], sM Ln I L c s) _
        refine dd_Rn.sub 5 (pc := 70) (ls := [.ref 0, .int a1, .int a2, .int a3, .int a4, .int a5, a6, a7]) (st := [.int a2, .int a5, .int ((1 : Int32) - a4), .int (-3)]) (M := sM Ln I L c s) (x := m_X10_hisGain) (as := [.int ((1 : Int32) - a4), .int a5, .int a2]) (rest := [.int (-3)]) rfl rfl rfl rfl ?_
        show dd_Rn (e + 15) m_X10_hisGain (0, [.int ((1 : Int32) - a4), .int a5, .int a2], [], sM Ln I L c s) _
        refine dd_Rn.ite 1 (c := (1 : Int32) - a4 = 0) (A := (4, [.int ((1 : Int32) - a4), .int a5, .int a2], [], sM Ln I L c s)) (B := (18, [.int ((1 : Int32) - a4), .int a5, .int a2], [], sM Ln I L c s)) rfl (fun hc => ?_) (fun hc => ?_) (by omega)
        · have h := h.1 hc
          refine dd_Rn.ite 1 (c := a5 = 0) (A := (8, [.int ((1 : Int32) - a4), .int a5, .int a2], [], sM Ln I L c s)) (B := (15, [.int ((1 : Int32) - a4), .int a5, .int a2], [], sM Ln I L c s)) rfl (fun hc => ?_) (fun hc => ?_) (by omega)
          · have h := h.1 hc
            refine dd_Rn.retK 4 (pc := 17) (ls := [.int ((1 : Int32) - a4), .int a5, .int a2]) (st := [.int ((9 : Int32) - a2)]) (M := sM Ln I L c s) (o := (none, .int ((9 : Int32) - a2), sM Ln I L c s)) rfl rfl (dd_Af.ret rfl ?_) (by omega)
            show dd_Rn (e + 16) m_X10_rests (73, [.ref 0, .int a1, .int a2, .int a3, .int a4, .int a5, a6, a7], [.int ((9 : Int32) - a2), .int (-3)], sM Ln I L c s) _
            refine dd_Rn.ite 0 (c := (-3 : Int32) < (9 : Int32) - a2) (A := (80, [.ref 0, .int a1, .int a2, .int a3, .int a4, .int a5, a6, a7], [], sM Ln I L c s)) (B := (76, [.ref 0, .int a1, .int a2, .int a3, .int a4, .int a5, a6, a7], [], sM Ln I L c s)) rfl (fun hc => ?_) (fun hc => ?_) (by omega)
            · have h := h.1 hc
              exact dd_Rn.go 1 (cf' := (81, [.ref 0, .int a1, .int a2, .int a3, .int a4, .int a5, a6, a7], [.int 0], sM Ln I L c s)) rfl h (by omega)
            · have h := h.2 hc
              exact dd_Rn.go 2 (cf' := (81, [.ref 0, .int a1, .int a2, .int a3, .int a4, .int a5, a6, a7], [.int 1], sM Ln I L c s)) rfl h (by omega)
          · have h := h.2 hc
            refine dd_Rn.retK 1 (pc := 17) (ls := [.int ((1 : Int32) - a4), .int a5, .int a2]) (st := [.int (-3)]) (M := sM Ln I L c s) (o := (none, .int (-3), sM Ln I L c s)) rfl rfl (dd_Af.ret rfl ?_) (by omega)
            show dd_Rn (e + 16) m_X10_rests (73, [.ref 0, .int a1, .int a2, .int a3, .int a4, .int a5, a6, a7], [.int (-3), .int (-3)], sM Ln I L c s) _
            exact dd_Rn.go 3 (cf' := (81, [.ref 0, .int a1, .int a2, .int a3, .int a4, .int a5, a6, a7], [.int 1], sM Ln I L c s)) rfl h (by omega)
        · have h := h.2 hc
          refine dd_Rn.ite 1 (c := a5 = 0) (A := (22, [.int ((1 : Int32) - a4), .int a5, .int a2], [], sM Ln I L c s)) (B := (26, [.int ((1 : Int32) - a4), .int a5, .int a2], [], sM Ln I L c s)) rfl (fun hc => ?_) (fun hc => ?_) (by omega)
          · have h := h.1 hc
            refine dd_Rn.retK 2 (pc := 27) (ls := [.int ((1 : Int32) - a4), .int a5, .int a2]) (st := [.int 1]) (M := sM Ln I L c s) (o := (none, .int 1, sM Ln I L c s)) rfl rfl (dd_Af.ret rfl ?_) (by omega)
            show dd_Rn (e + 16) m_X10_rests (73, [.ref 0, .int a1, .int a2, .int a3, .int a4, .int a5, a6, a7], [.int 1, .int (-3)], sM Ln I L c s) _
            exact dd_Rn.go 2 (cf' := (81, [.ref 0, .int a1, .int a2, .int a3, .int a4, .int a5, a6, a7], [.int 0], sM Ln I L c s)) rfl h (by omega)
          · have h := h.2 hc
            refine dd_Rn.retK 1 (pc := 27) (ls := [.int ((1 : Int32) - a4), .int a5, .int a2]) (st := [.int 0]) (M := sM Ln I L c s) (o := (none, .int 0, sM Ln I L c s)) rfl rfl (dd_Af.ret rfl ?_) (by omega)
            show dd_Rn (e + 16) m_X10_rests (73, [.ref 0, .int a1, .int a2, .int a3, .int a4, .int a5, a6, a7], [.int 0, .int (-3)], sM Ln I L c s) _
            exact dd_Rn.go 2 (cf' := (81, [.ref 0, .int a1, .int a2, .int a3, .int a4, .int a5, a6, a7], [.int 0], sM Ln I L c s)) rfl h (by omega)
    · have h := h.2 hc
      refine dd_Rn.ite 1 (c := a5 = 0) (A := (22, [.int a4, .int a5, .int a2], [], sM Ln I L c s)) (B := (26, [.int a4, .int a5, .int a2], [], sM Ln I L c s)) rfl (fun hc => ?_) (fun hc => ?_) (by omega)
      · have h := h.1 hc
        refine dd_Rn.retK 2 (pc := 27) (ls := [.int a4, .int a5, .int a2]) (st := [.int 1]) (M := sM Ln I L c s) (o := (none, .int 1, sM Ln I L c s)) rfl rfl (dd_Af.ret rfl ?_) (by omega)
        show dd_Rn (e + 16) m_X10_rests (63, [.ref 0, .int a1, .int a2, .int a3, .int a4, .int a5, a6, a7], [.int 1], sM Ln I L c s) _
        refine dd_Rn.sub 5 (pc := 70) (ls := [.ref 0, .int a1, .int a2, .int a3, .int a4, .int a5, a6, a7]) (st := [.int a2, .int a5, .int ((1 : Int32) - a4), .int 1]) (M := sM Ln I L c s) (x := m_X10_hisGain) (as := [.int ((1 : Int32) - a4), .int a5, .int a2]) (rest := [.int 1]) rfl rfl rfl rfl ?_
        show dd_Rn (e + 15) m_X10_hisGain (0, [.int ((1 : Int32) - a4), .int a5, .int a2], [], sM Ln I L c s) _
        refine dd_Rn.ite 1 (c := (1 : Int32) - a4 = 0) (A := (4, [.int ((1 : Int32) - a4), .int a5, .int a2], [], sM Ln I L c s)) (B := (18, [.int ((1 : Int32) - a4), .int a5, .int a2], [], sM Ln I L c s)) rfl (fun hc => ?_) (fun hc => ?_) (by omega)
        · have h := h.1 hc
          refine dd_Rn.ite 1 (c := a5 = 0) (A := (8, [.int ((1 : Int32) - a4), .int a5, .int a2], [], sM Ln I L c s)) (B := (15, [.int ((1 : Int32) - a4), .int a5, .int a2], [], sM Ln I L c s)) rfl (fun hc => ?_) (fun hc => ?_) (by omega)
          · have h := h.1 hc
            refine dd_Rn.retK 4 (pc := 17) (ls := [.int ((1 : Int32) - a4), .int a5, .int a2]) (st := [.int ((9 : Int32) - a2)]) (M := sM Ln I L c s) (o := (none, .int ((9 : Int32) - a2), sM Ln I L c s)) rfl rfl (dd_Af.ret rfl ?_) (by omega)
            show dd_Rn (e + 16) m_X10_rests (73, [.ref 0, .int a1, .int a2, .int a3, .int a4, .int a5, a6, a7], [.int ((9 : Int32) - a2), .int 1], sM Ln I L c s) _
            refine dd_Rn.ite 0 (c := (1 : Int32) < (9 : Int32) - a2) (A := (80, [.ref 0, .int a1, .int a2, .int a3, .int a4, .int a5, a6, a7], [], sM Ln I L c s)) (B := (76, [.ref 0, .int a1, .int a2, .int a3, .int a4, .int a5, a6, a7], [], sM Ln I L c s)) rfl (fun hc => ?_) (fun hc => ?_) (by omega)
            · have h := h.1 hc
              exact dd_Rn.go 1 (cf' := (81, [.ref 0, .int a1, .int a2, .int a3, .int a4, .int a5, a6, a7], [.int 0], sM Ln I L c s)) rfl h (by omega)
            · have h := h.2 hc
              exact dd_Rn.go 2 (cf' := (81, [.ref 0, .int a1, .int a2, .int a3, .int a4, .int a5, a6, a7], [.int 1], sM Ln I L c s)) rfl h (by omega)
          · have h := h.2 hc
            refine dd_Rn.retK 1 (pc := 17) (ls := [.int ((1 : Int32) - a4), .int a5, .int a2]) (st := [.int (-3)]) (M := sM Ln I L c s) (o := (none, .int (-3), sM Ln I L c s)) rfl rfl (dd_Af.ret rfl ?_) (by omega)
            show dd_Rn (e + 16) m_X10_rests (73, [.ref 0, .int a1, .int a2, .int a3, .int a4, .int a5, a6, a7], [.int (-3), .int 1], sM Ln I L c s) _
            exact dd_Rn.go 3 (cf' := (81, [.ref 0, .int a1, .int a2, .int a3, .int a4, .int a5, a6, a7], [.int 1], sM Ln I L c s)) rfl h (by omega)
        · have h := h.2 hc
          refine dd_Rn.ite 1 (c := a5 = 0) (A := (22, [.int ((1 : Int32) - a4), .int a5, .int a2], [], sM Ln I L c s)) (B := (26, [.int ((1 : Int32) - a4), .int a5, .int a2], [], sM Ln I L c s)) rfl (fun hc => ?_) (fun hc => ?_) (by omega)
          · have h := h.1 hc
            refine dd_Rn.retK 2 (pc := 27) (ls := [.int ((1 : Int32) - a4), .int a5, .int a2]) (st := [.int 1]) (M := sM Ln I L c s) (o := (none, .int 1, sM Ln I L c s)) rfl rfl (dd_Af.ret rfl ?_) (by omega)
            show dd_Rn (e + 16) m_X10_rests (73, [.ref 0, .int a1, .int a2, .int a3, .int a4, .int a5, a6, a7], [.int 1, .int 1], sM Ln I L c s) _
            exact dd_Rn.go 3 (cf' := (81, [.ref 0, .int a1, .int a2, .int a3, .int a4, .int a5, a6, a7], [.int 1], sM Ln I L c s)) rfl h (by omega)
          · have h := h.2 hc
            refine dd_Rn.retK 1 (pc := 27) (ls := [.int ((1 : Int32) - a4), .int a5, .int a2]) (st := [.int 0]) (M := sM Ln I L c s) (o := (none, .int 0, sM Ln I L c s)) rfl rfl (dd_Af.ret rfl ?_) (by omega)
            show dd_Rn (e + 16) m_X10_rests (73, [.ref 0, .int a1, .int a2, .int a3, .int a4, .int a5, a6, a7], [.int 0, .int 1], sM Ln I L c s) _
            exact dd_Rn.go 3 (cf' := (81, [.ref 0, .int a1, .int a2, .int a3, .int a4, .int a5, a6, a7], [.int 1], sM Ln I L c s)) rfl h (by omega)
      · have h := h.2 hc
        refine dd_Rn.retK 1 (pc := 27) (ls := [.int a4, .int a5, .int a2]) (st := [.int 0]) (M := sM Ln I L c s) (o := (none, .int 0, sM Ln I L c s)) rfl rfl (dd_Af.ret rfl ?_) (by omega)
        show dd_Rn (e + 16) m_X10_rests (63, [.ref 0, .int a1, .int a2, .int a3, .int a4, .int a5, a6, a7], [.int 0], sM Ln I L c s) _
        refine dd_Rn.sub 5 (pc := 70) (ls := [.ref 0, .int a1, .int a2, .int a3, .int a4, .int a5, a6, a7]) (st := [.int a2, .int a5, .int ((1 : Int32) - a4), .int 0]) (M := sM Ln I L c s) (x := m_X10_hisGain) (as := [.int ((1 : Int32) - a4), .int a5, .int a2]) (rest := [.int 0]) rfl rfl rfl rfl ?_
        show dd_Rn (e + 15) m_X10_hisGain (0, [.int ((1 : Int32) - a4), .int a5, .int a2], [], sM Ln I L c s) _
        refine dd_Rn.ite 1 (c := (1 : Int32) - a4 = 0) (A := (4, [.int ((1 : Int32) - a4), .int a5, .int a2], [], sM Ln I L c s)) (B := (18, [.int ((1 : Int32) - a4), .int a5, .int a2], [], sM Ln I L c s)) rfl (fun hc => ?_) (fun hc => ?_) (by omega)
        · have h := h.1 hc
          refine dd_Rn.ite 1 (c := a5 = 0) (A := (8, [.int ((1 : Int32) - a4), .int a5, .int a2], [], sM Ln I L c s)) (B := (15, [.int ((1 : Int32) - a4), .int a5, .int a2], [], sM Ln I L c s)) rfl (fun hc => ?_) (fun hc => ?_) (by omega)
          · have h := h.1 hc
            refine dd_Rn.retK 4 (pc := 17) (ls := [.int ((1 : Int32) - a4), .int a5, .int a2]) (st := [.int ((9 : Int32) - a2)]) (M := sM Ln I L c s) (o := (none, .int ((9 : Int32) - a2), sM Ln I L c s)) rfl rfl (dd_Af.ret rfl ?_) (by omega)
            show dd_Rn (e + 16) m_X10_rests (73, [.ref 0, .int a1, .int a2, .int a3, .int a4, .int a5, a6, a7], [.int ((9 : Int32) - a2), .int 0], sM Ln I L c s) _
            refine dd_Rn.ite 0 (c := (0 : Int32) < (9 : Int32) - a2) (A := (80, [.ref 0, .int a1, .int a2, .int a3, .int a4, .int a5, a6, a7], [], sM Ln I L c s)) (B := (76, [.ref 0, .int a1, .int a2, .int a3, .int a4, .int a5, a6, a7], [], sM Ln I L c s)) rfl (fun hc => ?_) (fun hc => ?_) (by omega)
            · have h := h.1 hc
              exact dd_Rn.go 1 (cf' := (81, [.ref 0, .int a1, .int a2, .int a3, .int a4, .int a5, a6, a7], [.int 0], sM Ln I L c s)) rfl h (by omega)
            · have h := h.2 hc
              exact dd_Rn.go 2 (cf' := (81, [.ref 0, .int a1, .int a2, .int a3, .int a4, .int a5, a6, a7], [.int 1], sM Ln I L c s)) rfl h (by omega)
          · have h := h.2 hc
            refine dd_Rn.retK 1 (pc := 17) (ls := [.int ((1 : Int32) - a4), .int a5, .int a2]) (st := [.int (-3)]) (M := sM Ln I L c s) (o := (none, .int (-3), sM Ln I L c s)) rfl rfl (dd_Af.ret rfl ?_) (by omega)
            show dd_Rn (e + 16) m_X10_rests (73, [.ref 0, .int a1, .int a2, .int a3, .int a4, .int a5, a6, a7], [.int (-3), .int 0], sM Ln I L c s) _
            exact dd_Rn.go 3 (cf' := (81, [.ref 0, .int a1, .int a2, .int a3, .int a4, .int a5, a6, a7], [.int 1], sM Ln I L c s)) rfl h (by omega)
        · have h := h.2 hc
          refine dd_Rn.ite 1 (c := a5 = 0) (A := (22, [.int ((1 : Int32) - a4), .int a5, .int a2], [], sM Ln I L c s)) (B := (26, [.int ((1 : Int32) - a4), .int a5, .int a2], [], sM Ln I L c s)) rfl (fun hc => ?_) (fun hc => ?_) (by omega)
          · have h := h.1 hc
            refine dd_Rn.retK 2 (pc := 27) (ls := [.int ((1 : Int32) - a4), .int a5, .int a2]) (st := [.int 1]) (M := sM Ln I L c s) (o := (none, .int 1, sM Ln I L c s)) rfl rfl (dd_Af.ret rfl ?_) (by omega)
            show dd_Rn (e + 16) m_X10_rests (73, [.ref 0, .int a1, .int a2, .int a3, .int a4, .int a5, a6, a7], [.int 1, .int 0], sM Ln I L c s) _
            exact dd_Rn.go 2 (cf' := (81, [.ref 0, .int a1, .int a2, .int a3, .int a4, .int a5, a6, a7], [.int 0], sM Ln I L c s)) rfl h (by omega)
          · have h := h.2 hc
            refine dd_Rn.retK 1 (pc := 27) (ls := [.int ((1 : Int32) - a4), .int a5, .int a2]) (st := [.int 0]) (M := sM Ln I L c s) (o := (none, .int 0, sM Ln I L c s)) rfl rfl (dd_Af.ret rfl ?_) (by omega)
            show dd_Rn (e + 16) m_X10_rests (73, [.ref 0, .int a1, .int a2, .int a3, .int a4, .int a5, a6, a7], [.int 0, .int 0], sM Ln I L c s) _
            exact dd_Rn.go 3 (cf' := (81, [.ref 0, .int a1, .int a2, .int a3, .int a4, .int a5, a6, a7], [.int 1], sM Ln I L c s)) rfl h (by omega)

theorem w_X10_rests_81 {Ln d c s : Nat} {I : Nat → Nat → Int32} {L : Nat → Nat → Int64} {Q : dd_O → Prop} {a1 a2 a3 a4 a5 b0 : Int32} {a6 a7 : Value} (hd : 28 ≤ d) (h : ((a5 = 1 → (((1 : Int32) - a5 = 1 → dd_Rn d m_X10_rests (107, [.ref 0, .int a1, .int a2, .int a3, .int a4, .int a5, .int b0, a7], [.int 1], sM Ln I L c s) Q) ∧ (¬ ((1 : Int32) - a5 = 1) → ((a4 = 0 → dd_Rn d m_X10_rests (107, [.ref 0, .int a1, .int a2, .int a3, .int a4, .int a5, .int b0, a7], [.int 0], sM Ln I L c s) Q) ∧ (¬ (a4 = 0) → dd_Rn d m_X10_rests (107, [.ref 0, .int a1, .int a2, .int a3, .int a4, .int a5, .int b0, a7], [.int 1], sM Ln I L c s) Q))))) ∧ (¬ (a5 = 1) → ((a4 = 0 → (((1 : Int32) - a5 = 1 → dd_Rn d m_X10_rests (107, [.ref 0, .int a1, .int a2, .int a3, .int a4, .int a5, .int b0, a7], [.int 1], sM Ln I L c s) Q) ∧ (¬ ((1 : Int32) - a5 = 1) → ((a4 = 0 → dd_Rn d m_X10_rests (107, [.ref 0, .int a1, .int a2, .int a3, .int a4, .int a5, .int b0, a7], [.int 1], sM Ln I L c s) Q) ∧ (¬ (a4 = 0) → dd_Rn d m_X10_rests (107, [.ref 0, .int a1, .int a2, .int a3, .int a4, .int a5, .int b0, a7], [.int 1], sM Ln I L c s) Q))))) ∧ (¬ (a4 = 0) → (((1 : Int32) - a5 = 1 → dd_Rn d m_X10_rests (107, [.ref 0, .int a1, .int a2, .int a3, .int a4, .int a5, .int b0, a7], [.int 0], sM Ln I L c s) Q) ∧ (¬ ((1 : Int32) - a5 = 1) → ((a4 = 0 → dd_Rn d m_X10_rests (107, [.ref 0, .int a1, .int a2, .int a3, .int a4, .int a5, .int b0, a7], [.int 0], sM Ln I L c s) Q) ∧ (¬ (a4 = 0) → dd_Rn d m_X10_rests (107, [.ref 0, .int a1, .int a2, .int a3, .int a4, .int a5, .int b0, a7], [.int 1], sM Ln I L c s) Q))))))))) : dd_Rn d m_X10_rests (81, [.ref 0, .int a1, .int a2, .int a3, .int a4, .int a5, a6, a7], [.int b0], sM Ln I L c s) Q := by
  obtain ⟨e, rfl⟩ : ∃ e, d = e + 16 := ⟨d - 16, by omega⟩
  refine dd_Rn.sub 3 (pc := 87) (ls := [.ref 0, .int a1, .int a2, .int a3, .int a4, .int a5, .int b0, a7]) (st := [.int a5, .int a4]) (M := sM Ln I L c s) (x := m_X10_theirGain) (as := [.int a4, .int a5]) (rest := []) rfl rfl rfl rfl ?_
  show dd_Rn (e + 15) m_X10_theirGain (0, [.int a4, .int a5], [], sM Ln I L c s) _
  refine dd_Rn.ite 2 (c := a5 = 1) (A := (5, [.int a4, .int a5], [], sM Ln I L c s)) (B := (7, [.int a4, .int a5], [], sM Ln I L c s)) rfl (fun hc => ?_) (fun hc => ?_) (by omega)
  · have h := h.1 hc
    refine dd_Rn.retK 1 (pc := 6) (ls := [.int a4, .int a5]) (st := [.int (-1)]) (M := sM Ln I L c s) (o := (none, .int (-1), sM Ln I L c s)) rfl rfl (dd_Af.ret rfl ?_) (by omega)
    show dd_Rn (e + 16) m_X10_rests (90, [.ref 0, .int a1, .int a2, .int a3, .int a4, .int a5, .int b0, a7], [.int (-1)], sM Ln I L c s) _
    refine dd_Rn.sub 4 (pc := 96) (ls := [.ref 0, .int a1, .int a2, .int a3, .int a4, .int a5, .int b0, a7]) (st := [.int ((1 : Int32) - a5), .int a4, .int (-1)]) (M := sM Ln I L c s) (x := m_X10_theirGain) (as := [.int a4, .int ((1 : Int32) - a5)]) (rest := [.int (-1)]) rfl rfl rfl rfl ?_
    show dd_Rn (e + 15) m_X10_theirGain (0, [.int a4, .int ((1 : Int32) - a5)], [], sM Ln I L c s) _
    refine dd_Rn.ite 2 (c := (1 : Int32) - a5 = 1) (A := (5, [.int a4, .int ((1 : Int32) - a5)], [], sM Ln I L c s)) (B := (7, [.int a4, .int ((1 : Int32) - a5)], [], sM Ln I L c s)) rfl (fun hc => ?_) (fun hc => ?_) (by omega)
    · have h := h.1 hc
      refine dd_Rn.retK 1 (pc := 6) (ls := [.int a4, .int ((1 : Int32) - a5)]) (st := [.int (-1)]) (M := sM Ln I L c s) (o := (none, .int (-1), sM Ln I L c s)) rfl rfl (dd_Af.ret rfl ?_) (by omega)
      show dd_Rn (e + 16) m_X10_rests (99, [.ref 0, .int a1, .int a2, .int a3, .int a4, .int a5, .int b0, a7], [.int (-1), .int (-1)], sM Ln I L c s) _
      exact dd_Rn.go 3 (cf' := (107, [.ref 0, .int a1, .int a2, .int a3, .int a4, .int a5, .int b0, a7], [.int 1], sM Ln I L c s)) rfl h (by omega)
    · have h := h.2 hc
      refine dd_Rn.ite 1 (c := a4 = 0) (A := (11, [.int a4, .int ((1 : Int32) - a5)], [], sM Ln I L c s)) (B := (15, [.int a4, .int ((1 : Int32) - a5)], [], sM Ln I L c s)) rfl (fun hc => ?_) (fun hc => ?_) (by omega)
      · have h := h.1 hc
        refine dd_Rn.retK 2 (pc := 17) (ls := [.int a4, .int ((1 : Int32) - a5)]) (st := [.int 3]) (M := sM Ln I L c s) (o := (none, .int 3, sM Ln I L c s)) rfl rfl (dd_Af.ret rfl ?_) (by omega)
        show dd_Rn (e + 16) m_X10_rests (99, [.ref 0, .int a1, .int a2, .int a3, .int a4, .int a5, .int b0, a7], [.int 3, .int (-1)], sM Ln I L c s) _
        exact dd_Rn.go 2 (cf' := (107, [.ref 0, .int a1, .int a2, .int a3, .int a4, .int a5, .int b0, a7], [.int 0], sM Ln I L c s)) rfl h (by omega)
      · have h := h.2 hc
        refine dd_Rn.retK 1 (pc := 17) (ls := [.int a4, .int ((1 : Int32) - a5)]) (st := [.int (-2)]) (M := sM Ln I L c s) (o := (none, .int (-2), sM Ln I L c s)) rfl rfl (dd_Af.ret rfl ?_) (by omega)
        show dd_Rn (e + 16) m_X10_rests (99, [.ref 0, .int a1, .int a2, .int a3, .int a4, .int a5, .int b0, a7], [.int (-2), .int (-1)], sM Ln I L c s) _
        exact dd_Rn.go 3 (cf' := (107, [.ref 0, .int a1, .int a2, .int a3, .int a4, .int a5, .int b0, a7], [.int 1], sM Ln I L c s)) rfl h (by omega)
  · have h := h.2 hc
    refine dd_Rn.ite 1 (c := a4 = 0) (A := (11, [.int a4, .int a5], [], sM Ln I L c s)) (B := (15, [.int a4, .int a5], [], sM Ln I L c s)) rfl (fun hc => ?_) (fun hc => ?_) (by omega)
    · have h := h.1 hc
      refine dd_Rn.retK 2 (pc := 17) (ls := [.int a4, .int a5]) (st := [.int 3]) (M := sM Ln I L c s) (o := (none, .int 3, sM Ln I L c s)) rfl rfl (dd_Af.ret rfl ?_) (by omega)
      show dd_Rn (e + 16) m_X10_rests (90, [.ref 0, .int a1, .int a2, .int a3, .int a4, .int a5, .int b0, a7], [.int 3], sM Ln I L c s) _
      refine dd_Rn.sub 4 (pc := 96) (ls := [.ref 0, .int a1, .int a2, .int a3, .int a4, .int a5, .int b0, a7]) (st := [.int ((1 : Int32) - a5), .int a4, .int 3]) (M := sM Ln I L c s) (x := m_X10_theirGain) (as := [.int a4, .int ((1 : Int32) - a5)]) (rest := [.int 3]) rfl rfl rfl rfl ?_
      show dd_Rn (e + 15) m_X10_theirGain (0, [.int a4, .int ((1 : Int32) - a5)], [], sM Ln I L c s) _
      refine dd_Rn.ite 2 (c := (1 : Int32) - a5 = 1) (A := (5, [.int a4, .int ((1 : Int32) - a5)], [], sM Ln I L c s)) (B := (7, [.int a4, .int ((1 : Int32) - a5)], [], sM Ln I L c s)) rfl (fun hc => ?_) (fun hc => ?_) (by omega)
      · have h := h.1 hc
        refine dd_Rn.retK 1 (pc := 6) (ls := [.int a4, .int ((1 : Int32) - a5)]) (st := [.int (-1)]) (M := sM Ln I L c s) (o := (none, .int (-1), sM Ln I L c s)) rfl rfl (dd_Af.ret rfl ?_) (by omega)
        show dd_Rn (e + 16) m_X10_rests (99, [.ref 0, .int a1, .int a2, .int a3, .int a4, .int a5, .int b0, a7], [.int (-1), .int 3], sM Ln I L c s) _
        exact dd_Rn.go 3 (cf' := (107, [.ref 0, .int a1, .int a2, .int a3, .int a4, .int a5, .int b0, a7], [.int 1], sM Ln I L c s)) rfl h (by omega)
      · have h := h.2 hc
        refine dd_Rn.ite 1 (c := a4 = 0) (A := (11, [.int a4, .int ((1 : Int32) - a5)], [], sM Ln I L c s)) (B := (15, [.int a4, .int ((1 : Int32) - a5)], [], sM Ln I L c s)) rfl (fun hc => ?_) (fun hc => ?_) (by omega)
        · have h := h.1 hc
          refine dd_Rn.retK 2 (pc := 17) (ls := [.int a4, .int ((1 : Int32) - a5)]) (st := [.int 3]) (M := sM Ln I L c s) (o := (none, .int 3, sM Ln I L c s)) rfl rfl (dd_Af.ret rfl ?_) (by omega)
          show dd_Rn (e + 16) m_X10_rests (99, [.ref 0, .int a1, .int a2, .int a3, .int a4, .int a5, .int b0, a7], [.int 3, .int 3], sM Ln I L c s) _
          exact dd_Rn.go 3 (cf' := (107, [.ref 0, .int a1, .int a2, .int a3, .int a4, .int a5, .int b0, a7], [.int 1], sM Ln I L c s)) rfl h (by omega)
        · have h := h.2 hc
          refine dd_Rn.retK 1 (pc := 17) (ls := [.int a4, .int ((1 : Int32) - a5)]) (st := [.int (-2)]) (M := sM Ln I L c s) (o := (none, .int (-2), sM Ln I L c s)) rfl rfl (dd_Af.ret rfl ?_) (by omega)
          show dd_Rn (e + 16) m_X10_rests (99, [.ref 0, .int a1, .int a2, .int a3, .int a4, .int a5, .int b0, a7], [.int (-2), .int 3], sM Ln I L c s) _
          exact dd_Rn.go 3 (cf' := (107, [.ref 0, .int a1, .int a2, .int a3, .int a4, .int a5, .int b0, a7], [.int 1], sM Ln I L c s)) rfl h (by omega)
    · have h := h.2 hc
      refine dd_Rn.retK 1 (pc := 17) (ls := [.int a4, .int a5]) (st := [.int (-2)]) (M := sM Ln I L c s) (o := (none, .int (-2), sM Ln I L c s)) rfl rfl (dd_Af.ret rfl ?_) (by omega)
      show dd_Rn (e + 16) m_X10_rests (90, [.ref 0, .int a1, .int a2, .int a3, .int a4, .int a5, .int b0, a7], [.int (-2)], sM Ln I L c s) _
      refine dd_Rn.sub 4 (pc := 96) (ls := [.ref 0, .int a1, .int a2, .int a3, .int a4, .int a5, .int b0, a7]) (st := [.int ((1 : Int32) - a5), .int a4, .int (-2)]) (M := sM Ln I L c s) (x := m_X10_theirGain) (as := [.int a4, .int ((1 : Int32) - a5)]) (rest := [.int (-2)]) rfl rfl rfl rfl ?_
      show dd_Rn (e + 15) m_X10_theirGain (0, [.int a4, .int ((1 : Int32) - a5)], [], sM Ln I L c s) _
      refine dd_Rn.ite 2 (c := (1 : Int32) - a5 = 1) (A := (5, [.int a4, .int ((1 : Int32) - a5)], [], sM Ln I L c s)) (B := (7, [.int a4, .int ((1 : Int32) - a5)], [], sM Ln I L c s)) rfl (fun hc => ?_) (fun hc => ?_) (by omega)
      · have h := h.1 hc
        refine dd_Rn.retK 1 (pc := 6) (ls := [.int a4, .int ((1 : Int32) - a5)]) (st := [.int (-1)]) (M := sM Ln I L c s) (o := (none, .int (-1), sM Ln I L c s)) rfl rfl (dd_Af.ret rfl ?_) (by omega)
        show dd_Rn (e + 16) m_X10_rests (99, [.ref 0, .int a1, .int a2, .int a3, .int a4, .int a5, .int b0, a7], [.int (-1), .int (-2)], sM Ln I L c s) _
        exact dd_Rn.go 2 (cf' := (107, [.ref 0, .int a1, .int a2, .int a3, .int a4, .int a5, .int b0, a7], [.int 0], sM Ln I L c s)) rfl h (by omega)
      · have h := h.2 hc
        refine dd_Rn.ite 1 (c := a4 = 0) (A := (11, [.int a4, .int ((1 : Int32) - a5)], [], sM Ln I L c s)) (B := (15, [.int a4, .int ((1 : Int32) - a5)], [], sM Ln I L c s)) rfl (fun hc => ?_) (fun hc => ?_) (by omega)
        · have h := h.1 hc
          refine dd_Rn.retK 2 (pc := 17) (ls := [.int a4, .int ((1 : Int32) - a5)]) (st := [.int 3]) (M := sM Ln I L c s) (o := (none, .int 3, sM Ln I L c s)) rfl rfl (dd_Af.ret rfl ?_) (by omega)
          show dd_Rn (e + 16) m_X10_rests (99, [.ref 0, .int a1, .int a2, .int a3, .int a4, .int a5, .int b0, a7], [.int 3, .int (-2)], sM Ln I L c s) _
          exact dd_Rn.go 2 (cf' := (107, [.ref 0, .int a1, .int a2, .int a3, .int a4, .int a5, .int b0, a7], [.int 0], sM Ln I L c s)) rfl h (by omega)
        · have h := h.2 hc
          refine dd_Rn.retK 1 (pc := 17) (ls := [.int a4, .int ((1 : Int32) - a5)]) (st := [.int (-2)]) (M := sM Ln I L c s) (o := (none, .int (-2), sM Ln I L c s)) rfl rfl (dd_Af.ret rfl ?_) (by omega)
          show dd_Rn (e + 16) m_X10_rests (99, [.ref 0, .int a1, .int a2, .int a3, .int a4, .int a5, .int b0, a7], [.int (-2), .int (-2)], sM Ln I L c s) _
          exact dd_Rn.go 3 (cf' := (107, [.ref 0, .int a1, .int a2, .int a3, .int a4, .int a5, .int b0, a7], [.int 1], sM Ln I L c s)) rfl h (by omega)

theorem w_X10_rests_107 {Ln d c s : Nat} {I : Nat → Nat → Int32} {L : Nat → Nat → Int64} {Q : dd_O → Prop} {a1 a2 a3 a4 a5 a6 b0 : Int32} {a7 : Value} (hd : 28 ≤ d) (h : ((a6 = 0 → dd_Rn d m_X10_rests (131, [.ref 0, .int a1, .int a2, .int a3, .int a4, .int a5, .int a6, .int b0], [], sM Ln I L c s) Q) ∧ (¬ (a6 = 0) → ((b0 = 0 → dd_Rn d m_X10_rests (131, [.ref 0, .int a1, .int a2, .int a3, .int a4, .int a5, .int a6, .int b0], [], sM Ln I L c s) Q) ∧ (¬ (b0 = 0) → dd_Rn d m_X10_rests (131, [.ref 0, .int a1, .int a2, .int (a3 ||| ((1 : Int32) <<< ((((2 : Int32) * a4) + a5) &&& 31))), .int a4, .int a5, .int a6, .int b0], [], sM Ln I L c s) Q))))) : dd_Rn d m_X10_rests (107, [.ref 0, .int a1, .int a2, .int a3, .int a4, .int a5, .int a6, a7], [.int b0], sM Ln I L c s) Q := by
  obtain ⟨e, rfl⟩ : ∃ e, d = e + 16 := ⟨d - 16, by omega⟩
  refine dd_Rn.ite 2 (c := a6 = 0) (A := (131, [.ref 0, .int a1, .int a2, .int a3, .int a4, .int a5, .int a6, .int b0], [], sM Ln I L c s)) (B := (114, [.ref 0, .int a1, .int a2, .int a3, .int a4, .int a5, .int a6, .int b0], [], sM Ln I L c s)) rfl (fun hc => ?_) (fun hc => ?_) (by omega)
  · have h := h.1 hc
    exact dd_Rn.go 0 (cf' := (131, [.ref 0, .int a1, .int a2, .int a3, .int a4, .int a5, .int a6, .int b0], [], sM Ln I L c s)) rfl h (by omega)
  · have h := h.2 hc
    refine dd_Rn.ite 1 (c := b0 = 0) (A := (131, [.ref 0, .int a1, .int a2, .int a3, .int a4, .int a5, .int a6, .int b0], [], sM Ln I L c s)) (B := (119, [.ref 0, .int a1, .int a2, .int a3, .int a4, .int a5, .int a6, .int b0], [], sM Ln I L c s)) rfl (fun hc => ?_) (fun hc => ?_) (by omega)
    · have h := h.1 hc
      exact dd_Rn.go 0 (cf' := (131, [.ref 0, .int a1, .int a2, .int a3, .int a4, .int a5, .int a6, .int b0], [], sM Ln I L c s)) rfl h (by omega)
    · have h := h.2 hc
      exact dd_Rn.go 10 (cf' := (131, [.ref 0, .int a1, .int a2, .int (a3 ||| ((1 : Int32) <<< ((((2 : Int32) * a4) + a5) &&& 31))), .int a4, .int a5, .int a6, .int b0], [], sM Ln I L c s)) rfl h (by omega)

theorem w_X10_rests_131 {Ln d c s : Nat} {I : Nat → Nat → Int32} {L : Nat → Nat → Int64} {Q : dd_O → Prop} {a1 a2 a3 a4 a5 a6 a7 : Int32} (hd : 28 ≤ d) (h : dd_Rn d m_X10_rests (49, [.ref 0, .int a1, .int a2, .int a3, .int a4, .int (a5 + 1), .int a6, .int a7], [], sM Ln I L c s) Q) : dd_Rn d m_X10_rests (131, [.ref 0, .int a1, .int a2, .int a3, .int a4, .int a5, .int a6, .int a7], [], sM Ln I L c s) Q := by
  obtain ⟨e, rfl⟩ : ∃ e, d = e + 16 := ⟨d - 16, by omega⟩
  exact dd_Rn.go 2 (cf' := (49, [.ref 0, .int a1, .int a2, .int a3, .int a4, .int (a5 + 1), .int a6, .int a7], [], sM Ln I L c s)) rfl h (by omega)

theorem w_X10_hearing_0 {Ln d c s : Nat} {I : Nat → Nat → Int32} {L : Nat → Nat → Int64} {Q : dd_O → Prop} (hd : 28 ≤ d) (h : dd_Rn d m_X10_hearing (4, [.ref 0, .int 0, .int 0], [], sM Ln I L c s) Q) : dd_Ev d m_X10_hearing [.ref 0] (sM Ln I L c s) Q := by
  obtain ⟨e, rfl⟩ : ∃ e, d = e + 16 := ⟨d - 16, by omega⟩
  show dd_Rn (e + 16) m_X10_hearing (0, [.ref 0, .null, .null], [], sM Ln I L c s) Q
  exact dd_Rn.go 4 (cf' := (4, [.ref 0, .int 0, .int 0], [], sM Ln I L c s)) rfl h (by omega)

theorem w_X10_hearing_4 {Ln d c s : Nat} {I : Nat → Nat → Int32} {L : Nat → Nat → Int64} {Q : dd_O → Prop} {a1 a2 : Int32} (hd : 28 ≤ d) (h : ((I 1 10 ≤ a2 → Q (none, .int a1, sM Ln I L c s)) ∧ (¬ (I 1 10 ≤ a2) → dd_Ev (d - 1) m_X10_hearsNow [.ref 0, .int a2] (sM Ln I L c s) (dd_RI Ln c s (fun x1 I1 L1 => ((x1 = 0 → dd_Rn d m_X10_hearing (4, [.ref 0, .int a1, .int (a2 + 1)], [], sM Ln I1 L1 c s) Q) ∧ (¬ (x1 = 0) → dd_Rn d m_X10_hearing (4, [.ref 0, .int (a1 ||| ((1 : Int32) <<< (a2 &&& 31))), .int (a2 + 1)], [], sM Ln I1 L1 c s) Q))))))) : dd_Rn d m_X10_hearing (4, [.ref 0, .int a1, .int a2], [], sM Ln I L c s) Q := by
  obtain ⟨e, rfl⟩ : ∃ e, d = e + 16 := ⟨d - 16, by omega⟩
  refine dd_Rn.ite 4 (c := I 1 10 ≤ a2) (A := (35, [.ref 0, .int a1, .int a2], [], sM Ln I L c s)) (B := (15, [.ref 0, .int a1, .int a2], [], sM Ln I L c s)) rfl (fun hc => ?_) (fun hc => ?_) (by omega)
  · have h := h.1 hc
    exact dd_Rn.retK 1 (pc := 36) (ls := [.ref 0, .int a1, .int a2]) (st := [.int a1]) (M := sM Ln I L c s) (o := (none, .int a1, sM Ln I L c s)) rfl rfl h (by omega)
  · have h := h.2 hc
    refine dd_Rn.cI 2 (pc := 17) (ls := [.ref 0, .int a1, .int a2]) (st := [.int a2, .ref 0]) (x := m_X10_hearsNow) (as := [.ref 0, .int a2]) (rest := []) rfl rfl rfl rfl h ?_
    intro x1 I1 L1 h
    show dd_Rn (e + 16) m_X10_hearing (20, [.ref 0, .int a1, .int a2], [.int x1], sM Ln I1 L1 c s) _
    refine dd_Rn.ite 0 (c := x1 = 0) (A := (29, [.ref 0, .int a1, .int a2], [], sM Ln I1 L1 c s)) (B := (23, [.ref 0, .int a1, .int a2], [], sM Ln I1 L1 c s)) rfl (fun hc => ?_) (fun hc => ?_) (by omega)
    · have h := h.1 hc
      exact dd_Rn.go 2 (cf' := (4, [.ref 0, .int a1, .int (a2 + 1)], [], sM Ln I1 L1 c s)) rfl h (by omega)
    · have h := h.2 hc
      exact dd_Rn.go 8 (cf' := (4, [.ref 0, .int (a1 ||| ((1 : Int32) <<< (a2 &&& 31))), .int (a2 + 1)], [], sM Ln I1 L1 c s)) rfl h (by omega)

theorem w_X10_dense_0 {Ln d c s : Nat} {I : Nat → Nat → Int32} {L : Nat → Nat → Int64} {Q : dd_O → Prop} (hd : 28 ≤ d) (h : dd_Ev (d - 1) m_J13_bitCount_95d88 [.long (L 1 0)] (sM Ln I L c s) (dd_RI Ln c s (fun x1 I1 L1 => Q (none, .int x1, sM Ln I1 L1 c s)))) : dd_Ev d m_X10_dense [.ref 0] (sM Ln I L c s) Q := by
  obtain ⟨e, rfl⟩ : ∃ e, d = e + 16 := ⟨d - 16, by omega⟩
  show dd_Rn (e + 16) m_X10_dense (0, [.ref 0], [], sM Ln I L c s) Q
  refine dd_Rn.cI 3 (pc := 7) (ls := [.ref 0]) (st := [.long (L 1 0)]) (x := m_J13_bitCount_95d88) (as := [.long (L 1 0)]) (rest := []) rfl rfl rfl rfl h ?_
  intro x1 I1 L1 h
  show dd_Rn (e + 16) m_X10_dense (10, [.ref 0], [.int x1], sM Ln I1 L1 c s) _
  exact dd_Rn.retK 0 (pc := 10) (ls := [.ref 0]) (st := [.int x1]) (M := sM Ln I1 L1 c s) (o := (none, .int x1, sM Ln I1 L1 c s)) rfl rfl h (by omega)

theorem w_X10_ferny_0 {Ln d c s : Nat} {I : Nat → Nat → Int32} {L : Nat → Nat → Int64} {Q : dd_O → Prop} (hd : 28 ≤ d) (h : dd_Rn d m_X10_ferny (6, [.ref 0, .int (-1), .int 0, .int 0], [], sM Ln I L c s) Q) : dd_Ev d m_X10_ferny [.ref 0] (sM Ln I L c s) Q := by
  obtain ⟨e, rfl⟩ : ∃ e, d = e + 16 := ⟨d - 16, by omega⟩
  show dd_Rn (e + 16) m_X10_ferny (0, [.ref 0, .null, .null, .null], [], sM Ln I L c s) Q
  exact dd_Rn.go 6 (cf' := (6, [.ref 0, .int (-1), .int 0, .int 0], [], sM Ln I L c s)) rfl h (by omega)

theorem w_X10_ferny_6 {Ln d c s : Nat} {I : Nat → Nat → Int32} {L : Nat → Nat → Int64} {Q : dd_O → Prop} {a1 a2 a3 : Int32} (hd : 28 ≤ d) (h : (((64 : Int32) ≤ a3 → Q (none, .int a1, sM Ln I L c s)) ∧ (¬ ((64 : Int32) ≤ a3) → ((0 ≤ a3 ∧ tn a3 < 64) ∧ ((I 2 (tn a3) ≤ a2 → dd_Rn d m_X10_ferny (6, [.ref 0, .int a1, .int a2, .int (a3 + 1)], [], sM Ln I L c s) Q) ∧ (¬ (I 2 (tn a3) ≤ a2) → ((0 ≤ a3 ∧ tn a3 < 64) ∧ dd_Rn d m_X10_ferny (6, [.ref 0, .int a3, .int (I 2 (tn a3)), .int (a3 + 1)], [], sM Ln I L c s) Q))))))) : dd_Rn d m_X10_ferny (6, [.ref 0, .int a1, .int a2, .int a3], [], sM Ln I L c s) Q := by
  obtain ⟨e, rfl⟩ : ∃ e, d = e + 16 := ⟨d - 16, by omega⟩
  refine dd_Rn.ite 2 (c := (64 : Int32) ≤ a3) (A := (43, [.ref 0, .int a1, .int a2, .int a3], [], sM Ln I L c s)) (B := (12, [.ref 0, .int a1, .int a2, .int a3], [], sM Ln I L c s)) rfl (fun hc => ?_) (fun hc => ?_) (by omega)
  · have h := h.1 hc
    exact dd_Rn.retK 1 (pc := 44) (ls := [.ref 0, .int a1, .int a2, .int a3]) (st := [.int a1]) (M := sM Ln I L c s) (o := (none, .int a1, sM Ln I L c s)) rfl rfl h (by omega)
  · have h := h.2 hc
    obtain ⟨hc, h⟩ := h
    refine dd_Rn.chk 4 (c := 0 ≤ a3 ∧ tn a3 < 64) (A := (21, [.ref 0, .int a1, .int a2, .int a3], [.int (I 2 (tn a3))], sM Ln I L c s)) rfl hc ?_ (by omega)
    refine dd_Rn.ite 1 (c := I 2 (tn a3) ≤ a2) (A := (37, [.ref 0, .int a1, .int a2, .int a3], [], sM Ln I L c s)) (B := (25, [.ref 0, .int a1, .int a2, .int a3], [], sM Ln I L c s)) rfl (fun hc => ?_) (fun hc => ?_) (by omega)
    · have h := h.1 hc
      exact dd_Rn.go 2 (cf' := (6, [.ref 0, .int a1, .int a2, .int (a3 + 1)], [], sM Ln I L c s)) rfl h (by omega)
    · have h := h.2 hc
      obtain ⟨hc, h⟩ := h
      refine dd_Rn.chk 4 (c := 0 ≤ a3 ∧ tn a3 < 64) (A := (34, [.ref 0, .int a1, .int a2, .int a3], [.int (I 2 (tn a3))], sM Ln I L c s)) rfl hc ?_ (by omega)
      exact dd_Rn.go 5 (cf' := (6, [.ref 0, .int a3, .int (I 2 (tn a3)), .int (a3 + 1)], [], sM Ln I L c s)) rfl h (by omega)

theorem w_X10_out_0 {Ln d c s : Nat} {I : Nat → Nat → Int32} {L : Nat → Nat → Int64} {Q : dd_O → Prop} (hd : 28 ≤ d) (h : dd_Ev (d - 1) m_X8_lostBoys [.ref 1] (sM Ln I L c s) (dd_RI Ln c s (fun x1 I1 L1 => Q (none, .int x1, sM Ln I1 L1 c s)))) : dd_Ev d m_X10_out [.ref 0] (sM Ln I L c s) Q := by
  obtain ⟨e, rfl⟩ : ∃ e, d = e + 16 := ⟨d - 16, by omega⟩
  show dd_Rn (e + 16) m_X10_out (0, [.ref 0], [], sM Ln I L c s) Q
  refine dd_Rn.cI 2 (pc := 4) (ls := [.ref 0]) (st := [.ref 1]) (x := m_X8_lostBoys) (as := [.ref 1]) (rest := []) rfl rfl rfl rfl h ?_
  intro x1 I1 L1 h
  show dd_Rn (e + 16) m_X10_out (7, [.ref 0], [.int x1], sM Ln I1 L1 c s) _
  exact dd_Rn.retK 0 (pc := 7) (ls := [.ref 0]) (st := [.int x1]) (M := sM Ln I1 L1 c s) (o := (none, .int x1, sM Ln I1 L1 c s)) rfl rfl h (by omega)

theorem w_X10_far_0 {Ln d c s : Nat} {I : Nat → Nat → Int32} {L : Nat → Nat → Int64} {Q : dd_O → Prop} (hd : 28 ≤ d) (h : dd_Rn d m_X10_far (6, [.ref 0, .int (-1), .int (-1), .int 0, .null], [], sM Ln I L c s) Q) : dd_Ev d m_X10_far [.ref 0] (sM Ln I L c s) Q := by
  obtain ⟨e, rfl⟩ : ∃ e, d = e + 16 := ⟨d - 16, by omega⟩
  show dd_Rn (e + 16) m_X10_far (0, [.ref 0, .null, .null, .null, .null], [], sM Ln I L c s) Q
  exact dd_Rn.go 6 (cf' := (6, [.ref 0, .int (-1), .int (-1), .int 0, .null], [], sM Ln I L c s)) rfl h (by omega)

theorem w_X10_far_6 {Ln d c s : Nat} {I : Nat → Nat → Int32} {L : Nat → Nat → Int64} {Q : dd_O → Prop} {a1 a2 a3 : Int32} {a4 : Value} (hd : 28 ≤ d) (h : ((I 1 10 ≤ a3 → Q (none, .int a1, sM Ln I L c s)) ∧ (¬ (I 1 10 ≤ a3) → ((0 ≤ a3 ∧ tn a3 < 6) ∧ dd_Ev (d - 1) m_X8_nearOf [.ref 1, .int (I 4 (tn a3))] (sM Ln I L c s) (dd_RI Ln c s (fun x1 I1 L1 => dd_Ev (d - 1) m_X8_isIn [.ref 1, .int a3] (sM Ln I1 L1 c s) (dd_RI Ln c s (fun x2 I2 L2 => ((x2 = 0 → ((x1 ≤ a2 → dd_Rn d m_X10_far (6, [.ref 0, .int a1, .int a2, .int (a3 + 1), .int x1], [], sM Ln I2 L2 c s) Q) ∧ (¬ (x1 ≤ a2) → dd_Rn d m_X10_far (6, [.ref 0, .int a3, .int x1, .int (a3 + 1), .int x1], [], sM Ln I2 L2 c s) Q))) ∧ (¬ (x2 = 0) → dd_Rn d m_X10_far (6, [.ref 0, .int a1, .int a2, .int (a3 + 1), .int x1], [], sM Ln I2 L2 c s) Q)))))))))) : dd_Rn d m_X10_far (6, [.ref 0, .int a1, .int a2, .int a3, a4], [], sM Ln I L c s) Q := by
  obtain ⟨e, rfl⟩ : ∃ e, d = e + 16 := ⟨d - 16, by omega⟩
  refine dd_Rn.ite 4 (c := I 1 10 ≤ a3) (A := (63, [.ref 0, .int a1, .int a2, .int a3, a4], [], sM Ln I L c s)) (B := (17, [.ref 0, .int a1, .int a2, .int a3, a4], [], sM Ln I L c s)) rfl (fun hc => ?_) (fun hc => ?_) (by omega)
  · have h := h.1 hc
    exact dd_Rn.retK 1 (pc := 64) (ls := [.ref 0, .int a1, .int a2, .int a3, a4]) (st := [.int a1]) (M := sM Ln I L c s) (o := (none, .int a1, sM Ln I L c s)) rfl rfl h (by omega)
  · have h := h.2 hc
    obtain ⟨hc, h⟩ := h
    refine dd_Rn.chk 6 (c := 0 ≤ a3 ∧ tn a3 < 6) (A := (30, [.ref 0, .int a1, .int a2, .int a3, a4], [.int (I 4 (tn a3)), .ref 1], sM Ln I L c s)) rfl hc ?_ (by omega)
    refine dd_Rn.cI 0 (pc := 30) (ls := [.ref 0, .int a1, .int a2, .int a3, a4]) (st := [.int (I 4 (tn a3)), .ref 1]) (x := m_X8_nearOf) (as := [.ref 1, .int (I 4 (tn a3))]) (rest := []) rfl rfl rfl rfl h ?_
    intro x1 I1 L1 h
    show dd_Rn (e + 16) m_X10_far (33, [.ref 0, .int a1, .int a2, .int a3, a4], [.int x1], sM Ln I1 L1 c s) _
    refine dd_Rn.cI 4 (pc := 40) (ls := [.ref 0, .int a1, .int a2, .int a3, .int x1]) (st := [.int a3, .ref 1]) (x := m_X8_isIn) (as := [.ref 1, .int a3]) (rest := []) rfl rfl rfl rfl h ?_
    intro x2 I2 L2 h
    show dd_Rn (e + 16) m_X10_far (43, [.ref 0, .int a1, .int a2, .int a3, .int x1], [.int x2], sM Ln I2 L2 c s) _
    refine dd_Rn.ite 0 (c := x2 = 0) (A := (46, [.ref 0, .int a1, .int a2, .int a3, .int x1], [], sM Ln I2 L2 c s)) (B := (57, [.ref 0, .int a1, .int a2, .int a3, .int x1], [], sM Ln I2 L2 c s)) rfl (fun hc => ?_) (fun hc => ?_) (by omega)
    · have h := h.1 hc
      refine dd_Rn.ite 2 (c := x1 ≤ a2) (A := (57, [.ref 0, .int a1, .int a2, .int a3, .int x1], [], sM Ln I2 L2 c s)) (B := (52, [.ref 0, .int a1, .int a2, .int a3, .int x1], [], sM Ln I2 L2 c s)) rfl (fun hc => ?_) (fun hc => ?_) (by omega)
      · have h := h.1 hc
        exact dd_Rn.go 2 (cf' := (6, [.ref 0, .int a1, .int a2, .int (a3 + 1), .int x1], [], sM Ln I2 L2 c s)) rfl h (by omega)
      · have h := h.2 hc
        exact dd_Rn.go 6 (cf' := (6, [.ref 0, .int a3, .int x1, .int (a3 + 1), .int x1], [], sM Ln I2 L2 c s)) rfl h (by omega)
    · have h := h.2 hc
      exact dd_Rn.go 2 (cf' := (6, [.ref 0, .int a1, .int a2, .int (a3 + 1), .int x1], [], sM Ln I2 L2 c s)) rfl h (by omega)

theorem w_X10_worst_0 {Ln d c s : Nat} {I : Nat → Nat → Int32} {L : Nat → Nat → Int64} {Q : dd_O → Prop} (hd : 28 ≤ d) (h : dd_Rn d m_X10_worst (6, [.ref 0, .int (-1), .int 0, .int 0], [], sM Ln I L c s) Q) : dd_Ev d m_X10_worst [.ref 0] (sM Ln I L c s) Q := by
  obtain ⟨e, rfl⟩ : ∃ e, d = e + 16 := ⟨d - 16, by omega⟩
  show dd_Rn (e + 16) m_X10_worst (0, [.ref 0, .null, .null, .null], [], sM Ln I L c s) Q
  exact dd_Rn.go 6 (cf' := (6, [.ref 0, .int (-1), .int 0, .int 0], [], sM Ln I L c s)) rfl h (by omega)

theorem w_X10_worst_6 {Ln d c s : Nat} {I : Nat → Nat → Int32} {L : Nat → Nat → Int64} {Q : dd_O → Prop} {a1 a2 a3 : Int32} (hd : 28 ≤ d) (h : ((I 1 10 ≤ a3 → Q (none, .int a1, sM Ln I L c s)) ∧ (¬ (I 1 10 ≤ a3) → ((0 ≤ a3 ∧ tn a3 < 6) ∧ ((I 7 (tn a3) ≤ a2 → dd_Rn d m_X10_worst (6, [.ref 0, .int a1, .int a2, .int (a3 + 1)], [], sM Ln I L c s) Q) ∧ (¬ (I 7 (tn a3) ≤ a2) → ((0 ≤ a3 ∧ tn a3 < 6) ∧ dd_Rn d m_X10_worst (6, [.ref 0, .int a3, .int (I 7 (tn a3)), .int (a3 + 1)], [], sM Ln I L c s) Q))))))) : dd_Rn d m_X10_worst (6, [.ref 0, .int a1, .int a2, .int a3], [], sM Ln I L c s) Q := by
  obtain ⟨e, rfl⟩ : ∃ e, d = e + 16 := ⟨d - 16, by omega⟩
  refine dd_Rn.ite 4 (c := I 1 10 ≤ a3) (A := (48, [.ref 0, .int a1, .int a2, .int a3], [], sM Ln I L c s)) (B := (17, [.ref 0, .int a1, .int a2, .int a3], [], sM Ln I L c s)) rfl (fun hc => ?_) (fun hc => ?_) (by omega)
  · have h := h.1 hc
    exact dd_Rn.retK 1 (pc := 49) (ls := [.ref 0, .int a1, .int a2, .int a3]) (st := [.int a1]) (M := sM Ln I L c s) (o := (none, .int a1, sM Ln I L c s)) rfl rfl h (by omega)
  · have h := h.2 hc
    obtain ⟨hc, h⟩ := h
    refine dd_Rn.chk 4 (c := 0 ≤ a3 ∧ tn a3 < 6) (A := (26, [.ref 0, .int a1, .int a2, .int a3], [.int (I 7 (tn a3))], sM Ln I L c s)) rfl hc ?_ (by omega)
    refine dd_Rn.ite 1 (c := I 7 (tn a3) ≤ a2) (A := (42, [.ref 0, .int a1, .int a2, .int a3], [], sM Ln I L c s)) (B := (30, [.ref 0, .int a1, .int a2, .int a3], [], sM Ln I L c s)) rfl (fun hc => ?_) (fun hc => ?_) (by omega)
    · have h := h.1 hc
      exact dd_Rn.go 2 (cf' := (6, [.ref 0, .int a1, .int a2, .int (a3 + 1)], [], sM Ln I L c s)) rfl h (by omega)
    · have h := h.2 hc
      obtain ⟨hc, h⟩ := h
      refine dd_Rn.chk 4 (c := 0 ≤ a3 ∧ tn a3 < 6) (A := (39, [.ref 0, .int a1, .int a2, .int a3], [.int (I 7 (tn a3))], sM Ln I L c s)) rfl hc ?_ (by omega)
      exact dd_Rn.go 5 (cf' := (6, [.ref 0, .int a3, .int (I 7 (tn a3)), .int (a3 + 1)], [], sM Ln I L c s)) rfl h (by omega)

theorem w_X10_odds_0 {Ln d c s : Nat} {I : Nat → Nat → Int32} {L : Nat → Nat → Int64} {Q : dd_O → Prop} {a1 a2 : Int32} (hd : 28 ≤ d) (h : ((a1 < 0 → Q (some 2, .null, sM Ln I L (c + 1) (s + 6))) ∧ (¬ (a1 < 0) → ((a1 < I 1 10 → ((a2 < 0 → Q (some 0, .null, sM Ln I L (c + 1) (s + 6))) ∧ (¬ (a2 < 0) → ((a2 ≤ 4 → dd_Ev (d - 1) m_X8_isIn [.ref 1, .int a1] (sM Ln I L c s) (dd_RI Ln c s (fun x1 I1 L1 => ((x1 = 0 → dd_Ev (d - 1) m_X10_hearsNow [.ref 0, .int a1] (sM Ln I1 L1 c s) (dd_RI Ln c s (fun x2 I2 L2 => ((x2 = 0 → dd_Rn d m_X10_odds (40, [.ref 0, .int a1, .int a2, .int 10000, .int 0], [], sM Ln I2 L2 c s) Q) ∧ (¬ (x2 = 0) → Q (none, .int 10000, sM Ln I2 L2 c s)))))) ∧ (¬ (x1 = 0) → Q (none, .int 10000, sM Ln I1 L1 c s)))))) ∧ (¬ (a2 ≤ 4) → Q (some 0, .null, sM Ln I L (c + 1) (s + 6))))))) ∧ (¬ (a1 < I 1 10) → Q (some 2, .null, sM Ln I L (c + 1) (s + 6))))))) : dd_Ev d m_X10_odds [.ref 0, .int a1, .int a2] (sM Ln I L c s) Q := by
  obtain ⟨e, rfl⟩ : ∃ e, d = e + 16 := ⟨d - 16, by omega⟩
  show dd_Rn (e + 16) m_X10_odds (0, [.ref 0, .int a1, .int a2, .null, .null], [], sM Ln I L c s) Q
  refine dd_Rn.sub 2 (pc := 2) (ls := [.ref 0, .int a1, .int a2, .null, .null]) (st := [.int a1, .ref 0]) (M := sM Ln I L c s) (x := m_X10_requireBoy) (as := [.ref 0, .int a1]) (rest := []) rfl rfl rfl rfl ?_
  show dd_Rn (e + 15) m_X10_requireBoy (0, [.ref 0, .int a1], [], sM Ln I L c s) _
  refine dd_Rn.ite 1 (c := a1 < 0) (A := (15, [.ref 0, .int a1], [], sM Ln I L c s)) (B := (4, [.ref 0, .int a1], [], sM Ln I L c s)) rfl (fun hc => ?_) (fun hc => ?_) (by omega)
  · have h := h.1 hc
    exact dd_Rn.throw 0 (pc := 15) (ls := [.ref 0, .int a1]) (st := []) (M := sM Ln I L c s) rfl rfl rfl (by omega) rfl (dd_Af.thr rfl rfl rfl h)
  · have h := h.2 hc
    refine dd_Rn.ite 4 (c := a1 < I 1 10) (A := (25, [.ref 0, .int a1], [], sM Ln I L c s)) (B := (15, [.ref 0, .int a1], [], sM Ln I L c s)) rfl (fun hc => ?_) (fun hc => ?_) (by omega)
    · have h := h.1 hc
      refine dd_Rn.retK 0 (pc := 25) (ls := [.ref 0, .int a1]) (st := []) (M := sM Ln I L c s) (o := (none, .null, sM Ln I L c s)) rfl rfl (dd_Af.ret rfl ?_) (by omega)
      show dd_Rn (e + 16) m_X10_odds (5, [.ref 0, .int a1, .int a2, .null, .null], [], sM Ln I L c s) _
      refine dd_Rn.sub 4 (pc := 9) (ls := [.ref 0, .int a1, .int a2, .null, .null]) (st := [.int 4, .int 0, .int a2, .ref 0]) (M := sM Ln I L c s) (x := m_X10_requireNumber) (as := [.ref 0, .int a2, .int 0, .int 4]) (rest := []) rfl rfl rfl rfl ?_
      show dd_Rn (e + 15) m_X10_requireNumber (0, [.ref 0, .int a2, .int 0, .int 4], [], sM Ln I L c s) _
      refine dd_Rn.ite 2 (c := a2 < 0) (A := (10, [.ref 0, .int a2, .int 0, .int 4], [], sM Ln I L c s)) (B := (5, [.ref 0, .int a2, .int 0, .int 4], [], sM Ln I L c s)) rfl (fun hc => ?_) (fun hc => ?_) (by omega)
      · have h := h.1 hc
        exact dd_Rn.throw 0 (pc := 10) (ls := [.ref 0, .int a2, .int 0, .int 4]) (st := []) (M := sM Ln I L c s) rfl rfl rfl (by omega) rfl (dd_Af.thr rfl rfl rfl h)
      · have h := h.2 hc
        refine dd_Rn.ite 2 (c := a2 ≤ 4) (A := (20, [.ref 0, .int a2, .int 0, .int 4], [], sM Ln I L c s)) (B := (10, [.ref 0, .int a2, .int 0, .int 4], [], sM Ln I L c s)) rfl (fun hc => ?_) (fun hc => ?_) (by omega)
        · have h := h.1 hc
          refine dd_Rn.retK 0 (pc := 20) (ls := [.ref 0, .int a2, .int 0, .int 4]) (st := []) (M := sM Ln I L c s) (o := (none, .null, sM Ln I L c s)) rfl rfl (dd_Af.ret rfl ?_) (by omega)
          show dd_Rn (e + 16) m_X10_odds (12, [.ref 0, .int a1, .int a2, .null, .null], [], sM Ln I L c s) _
          refine dd_Rn.cI 5 (pc := 21) (ls := [.ref 0, .int a1, .int a2, .int 10000, .null]) (st := [.int a1, .ref 1]) (x := m_X8_isIn) (as := [.ref 1, .int a1]) (rest := []) rfl rfl rfl rfl h ?_
          intro x1 I1 L1 h
          show dd_Rn (e + 16) m_X10_odds (24, [.ref 0, .int a1, .int a2, .int 10000, .null], [.int x1], sM Ln I1 L1 c s) _
          refine dd_Rn.ite 0 (c := x1 = 0) (A := (27, [.ref 0, .int a1, .int a2, .int 10000, .null], [], sM Ln I1 L1 c s)) (B := (35, [.ref 0, .int a1, .int a2, .int 10000, .null], [], sM Ln I1 L1 c s)) rfl (fun hc => ?_) (fun hc => ?_) (by omega)
          · have h := h.1 hc
            refine dd_Rn.cI 2 (pc := 29) (ls := [.ref 0, .int a1, .int a2, .int 10000, .null]) (st := [.int a1, .ref 0]) (x := m_X10_hearsNow) (as := [.ref 0, .int a1]) (rest := []) rfl rfl rfl rfl h ?_
            intro x2 I2 L2 h
            show dd_Rn (e + 16) m_X10_odds (32, [.ref 0, .int a1, .int a2, .int 10000, .null], [.int x2], sM Ln I2 L2 c s) _
            refine dd_Rn.ite 0 (c := x2 = 0) (A := (37, [.ref 0, .int a1, .int a2, .int 10000, .null], [], sM Ln I2 L2 c s)) (B := (35, [.ref 0, .int a1, .int a2, .int 10000, .null], [], sM Ln I2 L2 c s)) rfl (fun hc => ?_) (fun hc => ?_) (by omega)
            · have h := h.1 hc
              exact dd_Rn.go 2 (cf' := (40, [.ref 0, .int a1, .int a2, .int 10000, .int 0], [], sM Ln I2 L2 c s)) rfl h (by omega)
            · have h := h.2 hc
              exact dd_Rn.retK 1 (pc := 36) (ls := [.ref 0, .int a1, .int a2, .int 10000, .null]) (st := [.int 10000]) (M := sM Ln I2 L2 c s) (o := (none, .int 10000, sM Ln I2 L2 c s)) rfl rfl h (by omega)
          · have h := h.2 hc
            exact dd_Rn.retK 1 (pc := 36) (ls := [.ref 0, .int a1, .int a2, .int 10000, .null]) (st := [.int 10000]) (M := sM Ln I1 L1 c s) (o := (none, .int 10000, sM Ln I1 L1 c s)) rfl rfl h (by omega)
        · have h := h.2 hc
          exact dd_Rn.throw 0 (pc := 10) (ls := [.ref 0, .int a2, .int 0, .int 4]) (st := []) (M := sM Ln I L c s) rfl rfl rfl (by omega) rfl (dd_Af.thr rfl rfl rfl h)
    · have h := h.2 hc
      exact dd_Rn.throw 0 (pc := 15) (ls := [.ref 0, .int a1]) (st := []) (M := sM Ln I L c s) rfl rfl rfl (by omega) rfl (dd_Af.thr rfl rfl rfl h)

theorem w_X10_odds_40 {Ln d c s : Nat} {I : Nat → Nat → Int32} {L : Nat → Nat → Int64} {Q : dd_O → Prop} {a1 a2 a3 a4 : Int32} (hd : 28 ≤ d) (h : ((a2 ≤ a4 → Q (none, .int a3, sM Ln I L c s)) ∧ (¬ (a2 ≤ a4) → dd_Rn d m_X10_odds (40, [.ref 0, .int a1, .int a2, .int ((a3 * ((100 : Int32) - (I 1 15))) / 100), .int (a4 + 1)], [], sM Ln I L c s) Q))) : dd_Rn d m_X10_odds (40, [.ref 0, .int a1, .int a2, .int a3, .int a4], [], sM Ln I L c s) Q := by
  obtain ⟨e, rfl⟩ : ∃ e, d = e + 16 := ⟨d - 16, by omega⟩
  refine dd_Rn.ite 2 (c := a2 ≤ a4) (A := (68, [.ref 0, .int a1, .int a2, .int a3, .int a4], [], sM Ln I L c s)) (B := (46, [.ref 0, .int a1, .int a2, .int a3, .int a4], [], sM Ln I L c s)) rfl (fun hc => ?_) (fun hc => ?_) (by omega)
  · have h := h.1 hc
    exact dd_Rn.retK 1 (pc := 69) (ls := [.ref 0, .int a1, .int a2, .int a3, .int a4]) (st := [.int a3]) (M := sM Ln I L c s) (o := (none, .int a3, sM Ln I L c s)) rfl rfl h (by omega)
  · have h := h.2 hc
    exact dd_Rn.go 12 (cf' := (40, [.ref 0, .int a1, .int a2, .int ((a3 * ((100 : Int32) - (I 1 15))) / 100), .int (a4 + 1)], [], sM Ln I L c s)) rfl h (by omega)

theorem w_X10_twins_0 {Ln d c s : Nat} {I : Nat → Nat → Int32} {L : Nat → Nat → Int64} {Q : dd_O → Prop} (hd : 28 ≤ d) (h : dd_Rn d m_X10_twins (4, [.ref 0, .int 0, .int 0, .null], [], sM Ln I L c s) Q) : dd_Ev d m_X10_twins [.ref 0] (sM Ln I L c s) Q := by
  obtain ⟨e, rfl⟩ : ∃ e, d = e + 16 := ⟨d - 16, by omega⟩
  show dd_Rn (e + 16) m_X10_twins (0, [.ref 0, .null, .null, .null], [], sM Ln I L c s) Q
  exact dd_Rn.go 4 (cf' := (4, [.ref 0, .int 0, .int 0, .null], [], sM Ln I L c s)) rfl h (by omega)

theorem w_X10_twins_4 {Ln d c s : Nat} {I : Nat → Nat → Int32} {L : Nat → Nat → Int64} {Q : dd_O → Prop} {a1 a2 : Int32} {a3 : Value} (hd : 28 ≤ d) (h : ((I 1 10 ≤ a2 → Q (none, .int a1, sM Ln I L c s)) ∧ (¬ (I 1 10 ≤ a2) → dd_Rn d m_X10_twins (19, [.ref 0, .int a1, .int a2, .int (a2 + 1)], [], sM Ln I L c s) Q))) : dd_Rn d m_X10_twins (4, [.ref 0, .int a1, .int a2, a3], [], sM Ln I L c s) Q := by
  obtain ⟨e, rfl⟩ : ∃ e, d = e + 16 := ⟨d - 16, by omega⟩
  refine dd_Rn.ite 4 (c := I 1 10 ≤ a2) (A := (87, [.ref 0, .int a1, .int a2, a3], [], sM Ln I L c s)) (B := (15, [.ref 0, .int a1, .int a2, a3], [], sM Ln I L c s)) rfl (fun hc => ?_) (fun hc => ?_) (by omega)
  · have h := h.1 hc
    exact dd_Rn.retK 1 (pc := 88) (ls := [.ref 0, .int a1, .int a2, a3]) (st := [.int a1]) (M := sM Ln I L c s) (o := (none, .int a1, sM Ln I L c s)) rfl rfl h (by omega)
  · have h := h.2 hc
    exact dd_Rn.go 4 (cf' := (19, [.ref 0, .int a1, .int a2, .int (a2 + 1)], [], sM Ln I L c s)) rfl h (by omega)

theorem w_X10_twins_19 {Ln d c s : Nat} {I : Nat → Nat → Int32} {L : Nat → Nat → Int64} {Q : dd_O → Prop} {a1 a2 a3 : Int32} (hd : 28 ≤ d) (h : ((I 1 10 ≤ a3 → dd_Rn d m_X10_twins (4, [.ref 0, .int a1, .int (a2 + 1), .int a3], [], sM Ln I L c s) Q) ∧ (¬ (I 1 10 ≤ a3) → ((0 ≤ a2 ∧ tn a2 < 6) ∧ ((0 ≤ a3 ∧ tn a3 < 6) ∧ ((I 5 (tn a2) = I 5 (tn a3) → ((0 ≤ a2 ∧ tn a2 < 6) ∧ ((0 ≤ a3 ∧ tn a3 < 6) ∧ ((I 6 (tn a2) = I 6 (tn a3) → dd_Rn d m_X10_twins (19, [.ref 0, .int (a1 + 1), .int a2, .int (a3 + 1)], [], sM Ln I L c s) Q) ∧ (¬ (I 6 (tn a2) = I 6 (tn a3)) → dd_Rn d m_X10_twins (19, [.ref 0, .int a1, .int a2, .int (a3 + 1)], [], sM Ln I L c s) Q))))) ∧ (¬ (I 5 (tn a2) = I 5 (tn a3)) → dd_Rn d m_X10_twins (19, [.ref 0, .int a1, .int a2, .int (a3 + 1)], [], sM Ln I L c s) Q))))))) : dd_Rn d m_X10_twins (19, [.ref 0, .int a1, .int a2, .int a3], [], sM Ln I L c s) Q := by
  obtain ⟨e, rfl⟩ : ∃ e, d = e + 16 := ⟨d - 16, by omega⟩
  refine dd_Rn.ite 4 (c := I 1 10 ≤ a3) (A := (81, [.ref 0, .int a1, .int a2, .int a3], [], sM Ln I L c s)) (B := (30, [.ref 0, .int a1, .int a2, .int a3], [], sM Ln I L c s)) rfl (fun hc => ?_) (fun hc => ?_) (by omega)
  · have h := h.1 hc
    exact dd_Rn.go 2 (cf' := (4, [.ref 0, .int a1, .int (a2 + 1), .int a3], [], sM Ln I L c s)) rfl h (by omega)
  · have h := h.2 hc
    obtain ⟨hc, h⟩ := h
    refine dd_Rn.chk 4 (c := 0 ≤ a2 ∧ tn a2 < 6) (A := (39, [.ref 0, .int a1, .int a2, .int a3], [.int (I 5 (tn a2))], sM Ln I L c s)) rfl hc ?_ (by omega)
    obtain ⟨hc, h⟩ := h
    refine dd_Rn.chk 4 (c := 0 ≤ a3 ∧ tn a3 < 6) (A := (48, [.ref 0, .int a1, .int a2, .int a3], [.int (I 5 (tn a3)), .int (I 5 (tn a2))], sM Ln I L c s)) rfl hc ?_ (by omega)
    refine dd_Rn.ite 0 (c := I 5 (tn a2) = I 5 (tn a3)) (A := (51, [.ref 0, .int a1, .int a2, .int a3], [], sM Ln I L c s)) (B := (75, [.ref 0, .int a1, .int a2, .int a3], [], sM Ln I L c s)) rfl (fun hc => ?_) (fun hc => ?_) (by omega)
    · have h := h.1 hc
      obtain ⟨hc, h⟩ := h
      refine dd_Rn.chk 4 (c := 0 ≤ a2 ∧ tn a2 < 6) (A := (60, [.ref 0, .int a1, .int a2, .int a3], [.int (I 6 (tn a2))], sM Ln I L c s)) rfl hc ?_ (by omega)
      obtain ⟨hc, h⟩ := h
      refine dd_Rn.chk 4 (c := 0 ≤ a3 ∧ tn a3 < 6) (A := (69, [.ref 0, .int a1, .int a2, .int a3], [.int (I 6 (tn a3)), .int (I 6 (tn a2))], sM Ln I L c s)) rfl hc ?_ (by omega)
      refine dd_Rn.ite 0 (c := I 6 (tn a2) = I 6 (tn a3)) (A := (72, [.ref 0, .int a1, .int a2, .int a3], [], sM Ln I L c s)) (B := (75, [.ref 0, .int a1, .int a2, .int a3], [], sM Ln I L c s)) rfl (fun hc => ?_) (fun hc => ?_) (by omega)
      · have h := h.1 hc
        exact dd_Rn.go 3 (cf' := (19, [.ref 0, .int (a1 + 1), .int a2, .int (a3 + 1)], [], sM Ln I L c s)) rfl h (by omega)
      · have h := h.2 hc
        exact dd_Rn.go 2 (cf' := (19, [.ref 0, .int a1, .int a2, .int (a3 + 1)], [], sM Ln I L c s)) rfl h (by omega)
    · have h := h.2 hc
      exact dd_Rn.go 2 (cf' := (19, [.ref 0, .int a1, .int a2, .int (a3 + 1)], [], sM Ln I L c s)) rfl h (by omega)

theorem w_X10_ahead_0 {Ln d c s : Nat} {I : Nat → Nat → Int32} {L : Nat → Nat → Int64} {Q : dd_O → Prop} {a1 a2 : Int32} (hd : 28 ≤ d) (h : ((a1 < 0 → Q (some 2, .null, sM Ln I L (c + 1) (s + 6))) ∧ (¬ (a1 < 0) → ((a1 < I 1 10 → ((a2 < 0 → Q (some 0, .null, sM Ln I L (c + 1) (s + 6))) ∧ (¬ (a2 < 0) → ((a2 ≤ 100 → dd_Ev (d - 1) m_X10_cellAhead [.ref 0, .int a1, .int a2] (sM Ln I L c s) (dd_RI Ln c s (fun x1 I1 L1 => Q (none, .int x1, sM Ln I1 L1 c s)))) ∧ (¬ (a2 ≤ 100) → Q (some 0, .null, sM Ln I L (c + 1) (s + 6))))))) ∧ (¬ (a1 < I 1 10) → Q (some 2, .null, sM Ln I L (c + 1) (s + 6))))))) : dd_Ev d m_X10_ahead [.ref 0, .int a1, .int a2] (sM Ln I L c s) Q := by
  obtain ⟨e, rfl⟩ : ∃ e, d = e + 16 := ⟨d - 16, by omega⟩
  show dd_Rn (e + 16) m_X10_ahead (0, [.ref 0, .int a1, .int a2], [], sM Ln I L c s) Q
  refine dd_Rn.sub 2 (pc := 2) (ls := [.ref 0, .int a1, .int a2]) (st := [.int a1, .ref 0]) (M := sM Ln I L c s) (x := m_X10_requireBoy) (as := [.ref 0, .int a1]) (rest := []) rfl rfl rfl rfl ?_
  show dd_Rn (e + 15) m_X10_requireBoy (0, [.ref 0, .int a1], [], sM Ln I L c s) _
  refine dd_Rn.ite 1 (c := a1 < 0) (A := (15, [.ref 0, .int a1], [], sM Ln I L c s)) (B := (4, [.ref 0, .int a1], [], sM Ln I L c s)) rfl (fun hc => ?_) (fun hc => ?_) (by omega)
  · have h := h.1 hc
    exact dd_Rn.throw 0 (pc := 15) (ls := [.ref 0, .int a1]) (st := []) (M := sM Ln I L c s) rfl rfl rfl (by omega) rfl (dd_Af.thr rfl rfl rfl h)
  · have h := h.2 hc
    refine dd_Rn.ite 4 (c := a1 < I 1 10) (A := (25, [.ref 0, .int a1], [], sM Ln I L c s)) (B := (15, [.ref 0, .int a1], [], sM Ln I L c s)) rfl (fun hc => ?_) (fun hc => ?_) (by omega)
    · have h := h.1 hc
      refine dd_Rn.retK 0 (pc := 25) (ls := [.ref 0, .int a1]) (st := []) (M := sM Ln I L c s) (o := (none, .null, sM Ln I L c s)) rfl rfl (dd_Af.ret rfl ?_) (by omega)
      show dd_Rn (e + 16) m_X10_ahead (5, [.ref 0, .int a1, .int a2], [], sM Ln I L c s) _
      refine dd_Rn.sub 4 (pc := 10) (ls := [.ref 0, .int a1, .int a2]) (st := [.int 100, .int 0, .int a2, .ref 0]) (M := sM Ln I L c s) (x := m_X10_requireNumber) (as := [.ref 0, .int a2, .int 0, .int 100]) (rest := []) rfl rfl rfl rfl ?_
      show dd_Rn (e + 15) m_X10_requireNumber (0, [.ref 0, .int a2, .int 0, .int 100], [], sM Ln I L c s) _
      refine dd_Rn.ite 2 (c := a2 < 0) (A := (10, [.ref 0, .int a2, .int 0, .int 100], [], sM Ln I L c s)) (B := (5, [.ref 0, .int a2, .int 0, .int 100], [], sM Ln I L c s)) rfl (fun hc => ?_) (fun hc => ?_) (by omega)
      · have h := h.1 hc
        exact dd_Rn.throw 0 (pc := 10) (ls := [.ref 0, .int a2, .int 0, .int 100]) (st := []) (M := sM Ln I L c s) rfl rfl rfl (by omega) rfl (dd_Af.thr rfl rfl rfl h)
      · have h := h.2 hc
        refine dd_Rn.ite 2 (c := a2 ≤ 100) (A := (20, [.ref 0, .int a2, .int 0, .int 100], [], sM Ln I L c s)) (B := (10, [.ref 0, .int a2, .int 0, .int 100], [], sM Ln I L c s)) rfl (fun hc => ?_) (fun hc => ?_) (by omega)
        · have h := h.1 hc
          refine dd_Rn.retK 0 (pc := 20) (ls := [.ref 0, .int a2, .int 0, .int 100]) (st := []) (M := sM Ln I L c s) (o := (none, .null, sM Ln I L c s)) rfl rfl (dd_Af.ret rfl ?_) (by omega)
          show dd_Rn (e + 16) m_X10_ahead (13, [.ref 0, .int a1, .int a2], [], sM Ln I L c s) _
          refine dd_Rn.cI 3 (pc := 16) (ls := [.ref 0, .int a1, .int a2]) (st := [.int a2, .int a1, .ref 0]) (x := m_X10_cellAhead) (as := [.ref 0, .int a1, .int a2]) (rest := []) rfl rfl rfl rfl h ?_
          intro x1 I1 L1 h
          show dd_Rn (e + 16) m_X10_ahead (19, [.ref 0, .int a1, .int a2], [.int x1], sM Ln I1 L1 c s) _
          exact dd_Rn.retK 0 (pc := 19) (ls := [.ref 0, .int a1, .int a2]) (st := [.int x1]) (M := sM Ln I1 L1 c s) (o := (none, .int x1, sM Ln I1 L1 c s)) rfl rfl h (by omega)
        · have h := h.2 hc
          exact dd_Rn.throw 0 (pc := 10) (ls := [.ref 0, .int a2, .int 0, .int 100]) (st := []) (M := sM Ln I L c s) rfl rfl rfl (by omega) rfl (dd_Af.thr rfl rfl rfl h)
    · have h := h.2 hc
      exact dd_Rn.throw 0 (pc := 15) (ls := [.ref 0, .int a1]) (st := []) (M := sM Ln I L c s) rfl rfl rfl (by omega) rfl (dd_Af.thr rfl rfl rfl h)

theorem w_X10_cellAhead_0 {Ln d c s : Nat} {I : Nat → Nat → Int32} {L : Nat → Nat → Int64} {Q : dd_O → Prop} {a1 a2 : Int32} (hd : 28 ≤ d) (h : dd_Ev (d - 1) m_X6_follow [.ref 133, .int a1] (sM Ln I L c s) (dd_RV Ln c s (fun I1 L1 => dd_Rn d m_X10_cellAhead (10, [.ref 0, .int a1, .int a2, .int 0], [], sM Ln I1 L1 c s) Q))) : dd_Ev d m_X10_cellAhead [.ref 0, .int a1, .int a2] (sM Ln I L c s) Q := by
  obtain ⟨e, rfl⟩ : ∃ e, d = e + 16 := ⟨d - 16, by omega⟩
  show dd_Rn (e + 16) m_X10_cellAhead (0, [.ref 0, .int a1, .int a2, .null], [], sM Ln I L c s) Q
  refine dd_Rn.cV 3 (pc := 5) (ls := [.ref 0, .int a1, .int a2, .null]) (st := [.int a1, .ref 133]) (x := m_X6_follow) (as := [.ref 133, .int a1]) (rest := []) rfl rfl rfl rfl h ?_
  intro I1 L1 h
  show dd_Rn (e + 16) m_X10_cellAhead (8, [.ref 0, .int a1, .int a2, .null], [], sM Ln I1 L1 c s) _
  exact dd_Rn.go 2 (cf' := (10, [.ref 0, .int a1, .int a2, .int 0], [], sM Ln I1 L1 c s)) rfl h (by omega)

theorem w_X10_cellAhead_10 {Ln d c s : Nat} {I : Nat → Nat → Int32} {L : Nat → Nat → Int64} {Q : dd_O → Prop} {a1 a2 a3 : Int32} (hd : 28 ≤ d) (h : ((a2 ≤ a3 → Q (none, .int (I 133 4), sM Ln I L c s)) ∧ (¬ (a2 ≤ a3) → dd_Ev (d - 1) m_X6_beatAhead [.ref 133] (sM Ln I L c s) (dd_RV Ln c s (fun I1 L1 => dd_Rn d m_X10_cellAhead (10, [.ref 0, .int a1, .int a2, .int (a3 + 1)], [], sM Ln I1 L1 c s) Q))))) : dd_Rn d m_X10_cellAhead (10, [.ref 0, .int a1, .int a2, .int a3], [], sM Ln I L c s) Q := by
  obtain ⟨e, rfl⟩ : ∃ e, d = e + 16 := ⟨d - 16, by omega⟩
  refine dd_Rn.ite 2 (c := a2 ≤ a3) (A := (28, [.ref 0, .int a1, .int a2, .int a3], [], sM Ln I L c s)) (B := (15, [.ref 0, .int a1, .int a2, .int a3], [], sM Ln I L c s)) rfl (fun hc => ?_) (fun hc => ?_) (by omega)
  · have h := h.1 hc
    exact dd_Rn.retK 3 (pc := 35) (ls := [.ref 0, .int a1, .int a2, .int a3]) (st := [.int (I 133 4)]) (M := sM Ln I L c s) (o := (none, .int (I 133 4), sM Ln I L c s)) rfl rfl h (by omega)
  · have h := h.2 hc
    refine dd_Rn.cV 2 (pc := 19) (ls := [.ref 0, .int a1, .int a2, .int a3]) (st := [.ref 133]) (x := m_X6_beatAhead) (as := [.ref 133]) (rest := []) rfl rfl rfl rfl h ?_
    intro I1 L1 h
    show dd_Rn (e + 16) m_X10_cellAhead (22, [.ref 0, .int a1, .int a2, .int a3], [], sM Ln I1 L1 c s) _
    exact dd_Rn.go 2 (cf' := (10, [.ref 0, .int a1, .int a2, .int (a3 + 1)], [], sM Ln I1 L1 c s)) rfl h (by omega)

theorem w_X10_trial_0 {Ln d c s : Nat} {I : Nat → Nat → Int32} {L : Nat → Nat → Int64} {Q : dd_O → Prop} {a1 a2 : Int32} (hd : 28 ≤ d) (h : ((a1 < 0 → Q (some 0, .null, sM Ln I L (c + 1) (s + 6))) ∧ (¬ (a1 < 0) → ((a1 ≤ 100 → dd_Ev (d - 1) m_X8_copyFrom [.ref 9, .ref 1] (sM Ln I L c s) (dd_RV Ln c s (fun I1 L1 => dd_Ev (d - 1) m_X10_beatOn [.ref 0, .int a1] (sM Ln I1 L1 c s) (dd_RI Ln c s (fun x2 I2 L2 => ((a2 = 0 → dd_Ev (d - 1) m_X8_copyFrom [.ref 1, .ref 9] (sM Ln I2 L2 c s) (dd_RV Ln c s (fun I3 L3 => Q (none, .int (I2 1 12), sM Ln I3 L3 c s)))) ∧ (¬ (a2 = 0) → dd_Ev (d - 1) m_X8_badOfAll [.ref 1] (sM Ln I2 L2 c s) (dd_RI Ln c s (fun x4 I4 L4 => dd_Ev (d - 1) m_X8_copyFrom [.ref 1, .ref 9] (sM Ln I4 L4 c s) (dd_RV Ln c s (fun I5 L5 => Q (none, .int x4, sM Ln I5 L5 c s)))))))))))) ∧ (¬ (a1 ≤ 100) → Q (some 0, .null, sM Ln I L (c + 1) (s + 6))))))) : dd_Ev d m_X10_trial [.ref 0, .int a1, .int a2] (sM Ln I L c s) Q := by
  obtain ⟨e, rfl⟩ : ∃ e, d = e + 16 := ⟨d - 16, by omega⟩
  show dd_Rn (e + 16) m_X10_trial (0, [.ref 0, .int a1, .int a2, .null], [], sM Ln I L c s) Q
  refine dd_Rn.sub 4 (pc := 5) (ls := [.ref 0, .int a1, .int a2, .null]) (st := [.int 100, .int 0, .int a1, .ref 0]) (M := sM Ln I L c s) (x := m_X10_requireNumber) (as := [.ref 0, .int a1, .int 0, .int 100]) (rest := []) rfl rfl rfl rfl ?_
  show dd_Rn (e + 15) m_X10_requireNumber (0, [.ref 0, .int a1, .int 0, .int 100], [], sM Ln I L c s) _
  refine dd_Rn.ite 2 (c := a1 < 0) (A := (10, [.ref 0, .int a1, .int 0, .int 100], [], sM Ln I L c s)) (B := (5, [.ref 0, .int a1, .int 0, .int 100], [], sM Ln I L c s)) rfl (fun hc => ?_) (fun hc => ?_) (by omega)
  · have h := h.1 hc
    exact dd_Rn.throw 0 (pc := 10) (ls := [.ref 0, .int a1, .int 0, .int 100]) (st := []) (M := sM Ln I L c s) rfl rfl rfl (by omega) rfl (dd_Af.thr rfl rfl rfl h)
  · have h := h.2 hc
    refine dd_Rn.ite 2 (c := a1 ≤ 100) (A := (20, [.ref 0, .int a1, .int 0, .int 100], [], sM Ln I L c s)) (B := (10, [.ref 0, .int a1, .int 0, .int 100], [], sM Ln I L c s)) rfl (fun hc => ?_) (fun hc => ?_) (by omega)
    · have h := h.1 hc
      refine dd_Rn.retK 0 (pc := 20) (ls := [.ref 0, .int a1, .int 0, .int 100]) (st := []) (M := sM Ln I L c s) (o := (none, .null, sM Ln I L c s)) rfl rfl (dd_Af.ret rfl ?_) (by omega)
      show dd_Rn (e + 16) m_X10_trial (8, [.ref 0, .int a1, .int a2, .null], [], sM Ln I L c s) _
      refine dd_Rn.cV 4 (pc := 16) (ls := [.ref 0, .int a1, .int a2, .null]) (st := [.ref 1, .ref 9]) (x := m_X8_copyFrom) (as := [.ref 9, .ref 1]) (rest := []) rfl rfl rfl rfl h ?_
      intro I1 L1 h
      show dd_Rn (e + 16) m_X10_trial (19, [.ref 0, .int a1, .int a2, .null], [], sM Ln I1 L1 c s) _
      refine dd_Rn.cI 2 (pc := 21) (ls := [.ref 0, .int a1, .int a2, .null]) (st := [.int a1, .ref 0]) (x := m_X10_beatOn) (as := [.ref 0, .int a1]) (rest := []) rfl rfl rfl rfl h ?_
      intro x2 I2 L2 h
      show dd_Rn (e + 16) m_X10_trial (24, [.ref 0, .int a1, .int a2, .null], [.int x2], sM Ln I2 L2 c s) _
      refine dd_Rn.ite 2 (c := a2 = 0) (A := (39, [.ref 0, .int a1, .int a2, .null], [], sM Ln I2 L2 c s)) (B := (29, [.ref 0, .int a1, .int a2, .null], [], sM Ln I2 L2 c s)) rfl (fun hc => ?_) (fun hc => ?_) (by omega)
      · have h := h.1 hc
        refine dd_Rn.cV 8 (pc := 55) (ls := [.ref 0, .int a1, .int a2, .int (I2 1 12)]) (st := [.ref 9, .ref 1]) (x := m_X8_copyFrom) (as := [.ref 1, .ref 9]) (rest := []) rfl rfl rfl rfl h ?_
        intro I3 L3 h
        show dd_Rn (e + 16) m_X10_trial (58, [.ref 0, .int a1, .int a2, .int (I2 1 12)], [], sM Ln I3 L3 c s) _
        exact dd_Rn.retK 1 (pc := 59) (ls := [.ref 0, .int a1, .int a2, .int (I2 1 12)]) (st := [.int (I2 1 12)]) (M := sM Ln I3 L3 c s) (o := (none, .int (I2 1 12), sM Ln I3 L3 c s)) rfl rfl h (by omega)
      · have h := h.2 hc
        refine dd_Rn.cI 2 (pc := 33) (ls := [.ref 0, .int a1, .int a2, .null]) (st := [.ref 1]) (x := m_X8_badOfAll) (as := [.ref 1]) (rest := []) rfl rfl rfl rfl h ?_
        intro x4 I4 L4 h
        show dd_Rn (e + 16) m_X10_trial (36, [.ref 0, .int a1, .int a2, .null], [.int x4], sM Ln I4 L4 c s) _
        refine dd_Rn.cV 6 (pc := 55) (ls := [.ref 0, .int a1, .int a2, .int x4]) (st := [.ref 9, .ref 1]) (x := m_X8_copyFrom) (as := [.ref 1, .ref 9]) (rest := []) rfl rfl rfl rfl h ?_
        intro I5 L5 h
        show dd_Rn (e + 16) m_X10_trial (58, [.ref 0, .int a1, .int a2, .int x4], [], sM Ln I5 L5 c s) _
        exact dd_Rn.retK 1 (pc := 59) (ls := [.ref 0, .int a1, .int a2, .int x4]) (st := [.int x4]) (M := sM Ln I5 L5 c s) (o := (none, .int x4, sM Ln I5 L5 c s)) rfl rfl h (by omega)
    · have h := h.2 hc
      exact dd_Rn.throw 0 (pc := 10) (ls := [.ref 0, .int a1, .int 0, .int 100]) (st := []) (M := sM Ln I L c s) rfl rfl rfl (by omega) rfl (dd_Af.thr rfl rfl rfl h)

theorem w_X10_span_0 {Ln d c s : Nat} {I : Nat → Nat → Int32} {L : Nat → Nat → Int64} {Q : dd_O → Prop} {a1 a2 : Int32} (hd : 28 ≤ d) (h : ((a1 < 0 → Q (some 0, .null, sM Ln I L (c + 1) (s + 6))) ∧ (¬ (a1 < 0) → ((a1 ≤ 100 → dd_Ev (d - 1) m_X8_copyFrom [.ref 9, .ref 1] (sM Ln I L c s) (dd_RV Ln c s (fun I1 L1 => dd_Rn d m_X10_span (28, [.ref 0, .int a1, .int a2, .int 6, .int 0, .int 1, .null], [], sM Ln I1 L1 c s) Q))) ∧ (¬ (a1 ≤ 100) → Q (some 0, .null, sM Ln I L (c + 1) (s + 6))))))) : dd_Ev d m_X10_span [.ref 0, .int a1, .int a2] (sM Ln I L c s) Q := by
  obtain ⟨e, rfl⟩ : ∃ e, d = e + 16 := ⟨d - 16, by omega⟩
  show dd_Rn (e + 16) m_X10_span (0, [.ref 0, .int a1, .int a2, .null, .null, .null, .null], [], sM Ln I L c s) Q
  refine dd_Rn.sub 4 (pc := 5) (ls := [.ref 0, .int a1, .int a2, .null, .null, .null, .null]) (st := [.int 100, .int 0, .int a1, .ref 0]) (M := sM Ln I L c s) (x := m_X10_requireNumber) (as := [.ref 0, .int a1, .int 0, .int 100]) (rest := []) rfl rfl rfl rfl ?_
  show dd_Rn (e + 15) m_X10_requireNumber (0, [.ref 0, .int a1, .int 0, .int 100], [], sM Ln I L c s) _
  refine dd_Rn.ite 2 (c := a1 < 0) (A := (10, [.ref 0, .int a1, .int 0, .int 100], [], sM Ln I L c s)) (B := (5, [.ref 0, .int a1, .int 0, .int 100], [], sM Ln I L c s)) rfl (fun hc => ?_) (fun hc => ?_) (by omega)
  · have h := h.1 hc
    exact dd_Rn.throw 0 (pc := 10) (ls := [.ref 0, .int a1, .int 0, .int 100]) (st := []) (M := sM Ln I L c s) rfl rfl rfl (by omega) rfl (dd_Af.thr rfl rfl rfl h)
  · have h := h.2 hc
    refine dd_Rn.ite 2 (c := a1 ≤ 100) (A := (20, [.ref 0, .int a1, .int 0, .int 100], [], sM Ln I L c s)) (B := (10, [.ref 0, .int a1, .int 0, .int 100], [], sM Ln I L c s)) rfl (fun hc => ?_) (fun hc => ?_) (by omega)
    · have h := h.1 hc
      refine dd_Rn.retK 0 (pc := 20) (ls := [.ref 0, .int a1, .int 0, .int 100]) (st := []) (M := sM Ln I L c s) (o := (none, .null, sM Ln I L c s)) rfl rfl (dd_Af.ret rfl ?_) (by omega)
      show dd_Rn (e + 16) m_X10_span (8, [.ref 0, .int a1, .int a2, .null, .null, .null, .null], [], sM Ln I L c s) _
      refine dd_Rn.cV 8 (pc := 22) (ls := [.ref 0, .int a1, .int a2, .int 6, .int 0, .null, .null]) (st := [.ref 1, .ref 9]) (x := m_X8_copyFrom) (as := [.ref 9, .ref 1]) (rest := []) rfl rfl rfl rfl h ?_
      intro I1 L1 h
      show dd_Rn (e + 16) m_X10_span (25, [.ref 0, .int a1, .int a2, .int 6, .int 0, .null, .null], [], sM Ln I1 L1 c s) _
      exact dd_Rn.go 2 (cf' := (28, [.ref 0, .int a1, .int a2, .int 6, .int 0, .int 1, .null], [], sM Ln I1 L1 c s)) rfl h (by omega)
    · have h := h.2 hc
      exact dd_Rn.throw 0 (pc := 10) (ls := [.ref 0, .int a1, .int 0, .int 100]) (st := []) (M := sM Ln I L c s) rfl rfl rfl (by omega) rfl (dd_Af.thr rfl rfl rfl h)

theorem w_X10_span_28 {Ln d c s : Nat} {I : Nat → Nat → Int32} {L : Nat → Nat → Int64} {Q : dd_O → Prop} {a1 a2 a3 a4 a5 : Int32} {a6 : Value} (hd : 28 ≤ d) (h : (((6 : Int32) < a5 → ((a2 = 0 → Q (none, .int a3, sM Ln I L c s)) ∧ (¬ (a2 = 0) → Q (none, .int a4, sM Ln I L c s)))) ∧ (¬ ((6 : Int32) < a5) → dd_Ev (d - 1) m_X10_beatOn [.ref 0, .int a1] (sM Ln (dd_u I 1 (upd (I 1) 18 a5)) L c s) (dd_RI Ln c s (fun x1 I1 L1 => dd_Ev (d - 1) m_J6_bitCount_0f7a4 [.int (I1 1 12)] (sM Ln I1 L1 c s) (dd_RI Ln c s (fun x2 I2 L2 => dd_Ev (d - 1) m_X8_copyFrom [.ref 1, .ref 9] (sM Ln I2 L2 c s) (dd_RV Ln c s (fun I3 L3 => dd_Rn d m_X10_span (28, [.ref 0, .int a1, .int a2, .int (if x2 < a3 then x2 else a3), .int (if a4 < x2 then x2 else a4), .int (a5 + 1), .int x2], [], sM Ln I3 L3 c s) Q))))))))) : dd_Rn d m_X10_span (28, [.ref 0, .int a1, .int a2, .int a3, .int a4, .int a5, a6], [], sM Ln I L c s) Q := by
  obtain ⟨e, rfl⟩ : ∃ e, d = e + 16 := ⟨d - 16, by omega⟩
  refine dd_Rn.ite 2 (c := (6 : Int32) < a5) (A := (95, [.ref 0, .int a1, .int a2, .int a3, .int a4, .int a5, a6], [], sM Ln I L c s)) (B := (35, [.ref 0, .int a1, .int a2, .int a3, .int a4, .int a5, a6], [], sM Ln I L c s)) rfl (fun hc => ?_) (fun hc => ?_) (by omega)
  · have h := h.1 hc
    refine dd_Rn.ite 1 (c := a2 = 0) (A := (104, [.ref 0, .int a1, .int a2, .int a3, .int a4, .int a5, a6], [], sM Ln I L c s)) (B := (99, [.ref 0, .int a1, .int a2, .int a3, .int a4, .int a5, a6], [], sM Ln I L c s)) rfl (fun hc => ?_) (fun hc => ?_) (by omega)
    · have h := h.1 hc
      exact dd_Rn.retK 1 (pc := 105) (ls := [.ref 0, .int a1, .int a2, .int a3, .int a4, .int a5, a6]) (st := [.int a3]) (M := sM Ln I L c s) (o := (none, .int a3, sM Ln I L c s)) rfl rfl h (by omega)
    · have h := h.2 hc
      exact dd_Rn.retK 2 (pc := 105) (ls := [.ref 0, .int a1, .int a2, .int a3, .int a4, .int a5, a6]) (st := [.int a4]) (M := sM Ln I L c s) (o := (none, .int a4, sM Ln I L c s)) rfl rfl h (by omega)
  · have h := h.2 hc
    refine dd_Rn.cI 6 (pc := 46) (ls := [.ref 0, .int a1, .int a2, .int a3, .int a4, .int a5, a6]) (st := [.int a1, .ref 0]) (x := m_X10_beatOn) (as := [.ref 0, .int a1]) (rest := []) rfl rfl rfl rfl h ?_
    intro x1 I1 L1 h
    show dd_Rn (e + 16) m_X10_span (49, [.ref 0, .int a1, .int a2, .int a3, .int a4, .int a5, a6], [.int x1], sM Ln I1 L1 c s) _
    refine dd_Rn.cI 4 (pc := 57) (ls := [.ref 0, .int a1, .int a2, .int a3, .int a4, .int a5, a6]) (st := [.int (I1 1 12)]) (x := m_J6_bitCount_0f7a4) (as := [.int (I1 1 12)]) (rest := []) rfl rfl rfl rfl h ?_
    intro x2 I2 L2 h
    show dd_Rn (e + 16) m_X10_span (60, [.ref 0, .int a1, .int a2, .int a3, .int a4, .int a5, a6], [.int x2], sM Ln I2 L2 c s) _
    refine dd_Rn.cV 13 (pc := 86) (ls := [.ref 0, .int a1, .int a2, .int (if x2 < a3 then x2 else a3), .int (if a4 < x2 then x2 else a4), .int a5, .int x2]) (st := [.ref 9, .ref 1]) (x := m_X8_copyFrom) (as := [.ref 1, .ref 9]) (rest := []) rfl rfl rfl rfl h ?_
    intro I3 L3 h
    show dd_Rn (e + 16) m_X10_span (89, [.ref 0, .int a1, .int a2, .int (if x2 < a3 then x2 else a3), .int (if a4 < x2 then x2 else a4), .int a5, .int x2], [], sM Ln I3 L3 c s) _
    exact dd_Rn.go 2 (cf' := (28, [.ref 0, .int a1, .int a2, .int (if x2 < a3 then x2 else a3), .int (if a4 < x2 then x2 else a4), .int (a5 + 1), .int x2], [], sM Ln I3 L3 c s)) rfl h (by omega)

theorem w_X10_led_0 {Ln d c s : Nat} {I : Nat → Nat → Int32} {L : Nat → Nat → Int64} {Q : dd_O → Prop} {a1 a2 : Int32} (hd : 28 ≤ d) (h : ((a1 < 0 → Q (some 2, .null, sM Ln I L (c + 1) (s + 6))) ∧ (¬ (a1 < 0) → ((a1 < I 1 10 → dd_Rn d m_X10_led (21, [.ref 0, .int a1, .int a2, .int 0, .int (-1), .int ((I 1 8) - 1)], [], sM Ln I L c s) Q) ∧ (¬ (a1 < I 1 10) → Q (some 2, .null, sM Ln I L (c + 1) (s + 6))))))) : dd_Ev d m_X10_led [.ref 0, .int a1, .int a2] (sM Ln I L c s) Q := by
  obtain ⟨e, rfl⟩ : ∃ e, d = e + 16 := ⟨d - 16, by omega⟩
  show dd_Rn (e + 16) m_X10_led (0, [.ref 0, .int a1, .int a2, .null, .null, .null], [], sM Ln I L c s) Q
  refine dd_Rn.sub 2 (pc := 2) (ls := [.ref 0, .int a1, .int a2, .null, .null, .null]) (st := [.int a1, .ref 0]) (M := sM Ln I L c s) (x := m_X10_requireBoy) (as := [.ref 0, .int a1]) (rest := []) rfl rfl rfl rfl ?_
  show dd_Rn (e + 15) m_X10_requireBoy (0, [.ref 0, .int a1], [], sM Ln I L c s) _
  refine dd_Rn.ite 1 (c := a1 < 0) (A := (15, [.ref 0, .int a1], [], sM Ln I L c s)) (B := (4, [.ref 0, .int a1], [], sM Ln I L c s)) rfl (fun hc => ?_) (fun hc => ?_) (by omega)
  · have h := h.1 hc
    exact dd_Rn.throw 0 (pc := 15) (ls := [.ref 0, .int a1]) (st := []) (M := sM Ln I L c s) rfl rfl rfl (by omega) rfl (dd_Af.thr rfl rfl rfl h)
  · have h := h.2 hc
    refine dd_Rn.ite 4 (c := a1 < I 1 10) (A := (25, [.ref 0, .int a1], [], sM Ln I L c s)) (B := (15, [.ref 0, .int a1], [], sM Ln I L c s)) rfl (fun hc => ?_) (fun hc => ?_) (by omega)
    · have h := h.1 hc
      refine dd_Rn.retK 0 (pc := 25) (ls := [.ref 0, .int a1]) (st := []) (M := sM Ln I L c s) (o := (none, .null, sM Ln I L c s)) rfl rfl (dd_Af.ret rfl ?_) (by omega)
      show dd_Rn (e + 16) m_X10_led (5, [.ref 0, .int a1, .int a2, .null, .null, .null], [], sM Ln I L c s) _
      exact dd_Rn.go 10 (cf' := (21, [.ref 0, .int a1, .int a2, .int 0, .int (-1), .int ((I 1 8) - 1)], [], sM Ln I L c s)) rfl h (by omega)
    · have h := h.2 hc
      exact dd_Rn.throw 0 (pc := 15) (ls := [.ref 0, .int a1]) (st := []) (M := sM Ln I L c s) rfl rfl rfl (by omega) rfl (dd_Af.thr rfl rfl rfl h)

theorem w_X10_led_21 {Ln d c s : Nat} {I : Nat → Nat → Int32} {L : Nat → Nat → Int64} {Q : dd_O → Prop} {a1 a2 a3 a4 a5 : Int32} (hd : 28 ≤ d) (h : ((a5 < 0 → ((a2 = 0 → Q (none, .int a3, sM Ln I L c s)) ∧ (¬ (a2 = 0) → Q (none, .int a4, sM Ln I L c s)))) ∧ (¬ (a5 < 0) → dd_Ev (d - 1) m_X8_rowOf [.ref 1, .int a5, .int 2] (sM Ln I L c s) (dd_RI Ln c s (fun x1 I1 L1 => ((x1 = a1 → dd_Ev (d - 1) m_X8_rowOf [.ref 1, .int a5, .int 4] (sM Ln I1 L1 c s) (dd_RI Ln c s (fun x2 I2 L2 => dd_Rn d m_X10_led (21, [.ref 0, .int a1, .int a2, .int (a3 + 1), .int x2, .int (a5 + (-1))], [], sM Ln I2 L2 c s) Q))) ∧ (¬ (x1 = a1) → dd_Rn d m_X10_led (21, [.ref 0, .int a1, .int a2, .int a3, .int a4, .int (a5 + (-1))], [], sM Ln I1 L1 c s) Q))))))) : dd_Rn d m_X10_led (21, [.ref 0, .int a1, .int a2, .int a3, .int a4, .int a5], [], sM Ln I L c s) Q := by
  obtain ⟨e, rfl⟩ : ∃ e, d = e + 16 := ⟨d - 16, by omega⟩
  refine dd_Rn.ite 1 (c := a5 < 0) (A := (61, [.ref 0, .int a1, .int a2, .int a3, .int a4, .int a5], [], sM Ln I L c s)) (B := (26, [.ref 0, .int a1, .int a2, .int a3, .int a4, .int a5], [], sM Ln I L c s)) rfl (fun hc => ?_) (fun hc => ?_) (by omega)
  · have h := h.1 hc
    refine dd_Rn.ite 1 (c := a2 = 0) (A := (70, [.ref 0, .int a1, .int a2, .int a3, .int a4, .int a5], [], sM Ln I L c s)) (B := (65, [.ref 0, .int a1, .int a2, .int a3, .int a4, .int a5], [], sM Ln I L c s)) rfl (fun hc => ?_) (fun hc => ?_) (by omega)
    · have h := h.1 hc
      exact dd_Rn.retK 1 (pc := 71) (ls := [.ref 0, .int a1, .int a2, .int a3, .int a4, .int a5]) (st := [.int a3]) (M := sM Ln I L c s) (o := (none, .int a3, sM Ln I L c s)) rfl rfl h (by omega)
    · have h := h.2 hc
      exact dd_Rn.retK 2 (pc := 71) (ls := [.ref 0, .int a1, .int a2, .int a3, .int a4, .int a5]) (st := [.int a4]) (M := sM Ln I L c s) (o := (none, .int a4, sM Ln I L c s)) rfl rfl h (by omega)
  · have h := h.2 hc
    refine dd_Rn.cI 4 (pc := 33) (ls := [.ref 0, .int a1, .int a2, .int a3, .int a4, .int a5]) (st := [.int 2, .int a5, .ref 1]) (x := m_X8_rowOf) (as := [.ref 1, .int a5, .int 2]) (rest := []) rfl rfl rfl rfl h ?_
    intro x1 I1 L1 h
    show dd_Rn (e + 16) m_X10_led (36, [.ref 0, .int a1, .int a2, .int a3, .int a4, .int a5], [.int x1], sM Ln I1 L1 c s) _
    refine dd_Rn.ite 1 (c := x1 = a1) (A := (40, [.ref 0, .int a1, .int a2, .int a3, .int a4, .int a5], [], sM Ln I1 L1 c s)) (B := (55, [.ref 0, .int a1, .int a2, .int a3, .int a4, .int a5], [], sM Ln I1 L1 c s)) rfl (fun hc => ?_) (fun hc => ?_) (by omega)
    · have h := h.1 hc
      refine dd_Rn.cI 5 (pc := 50) (ls := [.ref 0, .int a1, .int a2, .int (a3 + 1), .int a4, .int a5]) (st := [.int 4, .int a5, .ref 1]) (x := m_X8_rowOf) (as := [.ref 1, .int a5, .int 4]) (rest := []) rfl rfl rfl rfl h ?_
      intro x2 I2 L2 h
      show dd_Rn (e + 16) m_X10_led (53, [.ref 0, .int a1, .int a2, .int (a3 + 1), .int a4, .int a5], [.int x2], sM Ln I2 L2 c s) _
      exact dd_Rn.go 3 (cf' := (21, [.ref 0, .int a1, .int a2, .int (a3 + 1), .int x2, .int (a5 + (-1))], [], sM Ln I2 L2 c s)) rfl h (by omega)
    · have h := h.2 hc
      exact dd_Rn.go 2 (cf' := (21, [.ref 0, .int a1, .int a2, .int a3, .int a4, .int (a5 + (-1))], [], sM Ln I1 L1 c s)) rfl h (by omega)

theorem w_X10_log_0 {Ln d c s : Nat} {I : Nat → Nat → Int32} {L : Nat → Nat → Int64} {Q : dd_O → Prop} {a1 a2 : Int32} (hd : 28 ≤ d) (h : ((a2 < 0 → Q (some 3, .null, sM Ln I L (c + 1) (s + 6))) ∧ (¬ (a2 < 0) → ((a2 ≤ 4 → dd_Ev (d - 1) m_X8_rowOf [.ref 1, .int a1, .int a2] (sM Ln I L c s) (dd_RI Ln c s (fun x1 I1 L1 => Q (none, .int x1, sM Ln I1 L1 c s)))) ∧ (¬ (a2 ≤ 4) → Q (some 3, .null, sM Ln I L (c + 1) (s + 6))))))) : dd_Ev d m_X10_log [.ref 0, .int a1, .int a2] (sM Ln I L c s) Q := by
  obtain ⟨e, rfl⟩ : ∃ e, d = e + 16 := ⟨d - 16, by omega⟩
  show dd_Rn (e + 16) m_X10_log (0, [.ref 0, .int a1, .int a2], [], sM Ln I L c s) Q
  refine dd_Rn.ite 1 (c := a2 < 0) (A := (9, [.ref 0, .int a1, .int a2], [], sM Ln I L c s)) (B := (4, [.ref 0, .int a1, .int a2], [], sM Ln I L c s)) rfl (fun hc => ?_) (fun hc => ?_) (by omega)
  · have h := h.1 hc
    exact dd_Rn.throw 0 (pc := 9) (ls := [.ref 0, .int a1, .int a2]) (st := []) (M := sM Ln I L c s) rfl rfl rfl (by omega) rfl h
  · have h := h.2 hc
    refine dd_Rn.ite 2 (c := a2 ≤ 4) (A := (20, [.ref 0, .int a1, .int a2], [], sM Ln I L c s)) (B := (9, [.ref 0, .int a1, .int a2], [], sM Ln I L c s)) rfl (fun hc => ?_) (fun hc => ?_) (by omega)
    · have h := h.1 hc
      refine dd_Rn.cI 4 (pc := 26) (ls := [.ref 0, .int a1, .int a2]) (st := [.int a2, .int a1, .ref 1]) (x := m_X8_rowOf) (as := [.ref 1, .int a1, .int a2]) (rest := []) rfl rfl rfl rfl h ?_
      intro x1 I1 L1 h
      show dd_Rn (e + 16) m_X10_log (29, [.ref 0, .int a1, .int a2], [.int x1], sM Ln I1 L1 c s) _
      exact dd_Rn.retK 0 (pc := 29) (ls := [.ref 0, .int a1, .int a2]) (st := [.int x1]) (M := sM Ln I1 L1 c s) (o := (none, .int x1, sM Ln I1 L1 c s)) rfl rfl h (by omega)
    · have h := h.2 hc
      exact dd_Rn.throw 0 (pc := 9) (ls := [.ref 0, .int a1, .int a2]) (st := []) (M := sM Ln I L c s) rfl rfl rfl (by omega) rfl h

theorem w_X10_seed_0 {Ln d c s : Nat} {I : Nat → Nat → Int32} {L : Nat → Nat → Int64} {Q : dd_O → Prop} {a1 : Int32} (hd : 28 ≤ d) (h : Q (none, .int (I 1 18), sM Ln (dd_u I 1 (upd (I 1) 18 a1)) L c s)) : dd_Ev d m_X10_seed [.ref 0, .int a1] (sM Ln I L c s) Q := by
  obtain ⟨e, rfl⟩ : ∃ e, d = e + 16 := ⟨d - 16, by omega⟩
  show dd_Rn (e + 16) m_X10_seed (0, [.ref 0, .int a1, .null], [], sM Ln I L c s) Q
  exact dd_Rn.retK 9 (pc := 17) (ls := [.ref 0, .int a1, .int (I 1 18)]) (st := [.int (I 1 18)]) (M := sM Ln (dd_u I 1 (upd (I 1) 18 a1)) L c s) (o := (none, .int (I 1 18), sM Ln (dd_u I 1 (upd (I 1) 18 a1)) L c s)) rfl rfl h (by omega)

theorem w_X10_undo_0 {Ln d c s : Nat} {I : Nat → Nat → Int32} {L : Nat → Nat → Int64} {Q : dd_O → Prop} (hd : 28 ≤ d) (h : dd_Ev (d - 1) m_X0_takeBack [.ref 31, .ref 1] (sM Ln I L c s) (dd_RI Ln c s (fun x1 I1 L1 => ((x1 = 0 ∨ x1 = 1) ∧ Q (none, .int x1, sM Ln I1 L1 c s))))) : dd_Ev d m_X10_undo [.ref 0] (sM Ln I L c s) Q := by
  obtain ⟨e, rfl⟩ : ∃ e, d = e + 16 := ⟨d - 16, by omega⟩
  show dd_Rn (e + 16) m_X10_undo (0, [.ref 0], [], sM Ln I L c s) Q
  refine dd_Rn.cI 4 (pc := 8) (ls := [.ref 0]) (st := [.ref 1, .ref 31]) (x := m_X0_takeBack) (as := [.ref 31, .ref 1]) (rest := []) rfl rfl rfl rfl h ?_
  intro x1 I1 L1 h
  show dd_Rn (e + 16) m_X10_undo (11, [.ref 0], [.int x1], sM Ln I1 L1 c s) _
  obtain ⟨hc, h⟩ := h
  exact dd_Rn.retB 0 (cf' := (11, [.ref 0], [.int x1], sM Ln I1 L1 c s)) (v := x1) rfl rfl hc h (by omega)

theorem w_X10_image_0 {Ln d c s : Nat} {I : Nat → Nat → Int32} {L : Nat → Nat → Int64} {Q : dd_O → Prop} (hd : 28 ≤ d) (h : dd_Ev (d - 1) m_X8_copyFrom [.ref 17, .ref 1] (sM Ln I L c s) (dd_RV Ln c s (fun I1 L1 => dd_Ev (d - 1) m_X2_copyFrom [.ref 29, .ref 25] (sM Ln I1 L1 c s) (dd_RV Ln c s (fun I2 L2 => Q (none, .null, sM Ln (dd_u I2 0 (upd (I2 0) 6 1)) L2 c s)))))) : dd_Ev d m_X10_image [.ref 0] (sM Ln I L c s) Q := by
  obtain ⟨e, rfl⟩ : ∃ e, d = e + 16 := ⟨d - 16, by omega⟩
  show dd_Rn (e + 16) m_X10_image (0, [.ref 0], [], sM Ln I L c s) Q
  refine dd_Rn.cV 4 (pc := 8) (ls := [.ref 0]) (st := [.ref 1, .ref 17]) (x := m_X8_copyFrom) (as := [.ref 17, .ref 1]) (rest := []) rfl rfl rfl rfl h ?_
  intro I1 L1 h
  show dd_Rn (e + 16) m_X10_image (11, [.ref 0], [], sM Ln I1 L1 c s) _
  refine dd_Rn.cV 4 (pc := 19) (ls := [.ref 0]) (st := [.ref 25, .ref 29]) (x := m_X2_copyFrom) (as := [.ref 29, .ref 25]) (rest := []) rfl rfl rfl rfl h ?_
  intro I2 L2 h
  show dd_Rn (e + 16) m_X10_image (22, [.ref 0], [], sM Ln I2 L2 c s) _
  exact dd_Rn.retK 3 (pc := 27) (ls := [.ref 0]) (st := []) (M := sM Ln (dd_u I2 0 (upd (I2 0) 6 1)) L2 c s) (o := (none, .null, sM Ln (dd_u I2 0 (upd (I2 0) 6 1)) L2 c s)) rfl rfl h (by omega)

theorem w_X10_back_0 {Ln d c s : Nat} {I : Nat → Nat → Int32} {L : Nat → Nat → Int64} {Q : dd_O → Prop} (hd : 28 ≤ d) (h : ((I 0 6 = 0 → Q (none, .int 0, sM Ln I L c s)) ∧ (¬ (I 0 6 = 0) → dd_Ev (d - 1) m_X8_copyFrom [.ref 1, .ref 17] (sM Ln I L c s) (dd_RV Ln c s (fun I1 L1 => dd_Ev (d - 1) m_X2_copyFrom [.ref 25, .ref 29] (sM Ln I1 L1 c s) (dd_RV Ln c s (fun I2 L2 => Q (none, .int 1, sM Ln (dd_u I2 31 (upd (I2 31) 2 0)) L2 c s)))))))) : dd_Ev d m_X10_back [.ref 0] (sM Ln I L c s) Q := by
  obtain ⟨e, rfl⟩ : ∃ e, d = e + 16 := ⟨d - 16, by omega⟩
  show dd_Rn (e + 16) m_X10_back (0, [.ref 0], [], sM Ln I L c s) Q
  refine dd_Rn.ite 2 (c := I 0 6 = 0) (A := (7, [.ref 0], [], sM Ln I L c s)) (B := (9, [.ref 0], [], sM Ln I L c s)) rfl (fun hc => ?_) (fun hc => ?_) (by omega)
  · have h := h.1 hc
    exact dd_Rn.retK 1 (pc := 8) (ls := [.ref 0]) (st := [.int 0]) (M := sM Ln I L c s) (o := (none, .int 0, sM Ln I L c s)) rfl rfl h (by omega)
  · have h := h.2 hc
    refine dd_Rn.cV 4 (pc := 17) (ls := [.ref 0]) (st := [.ref 17, .ref 1]) (x := m_X8_copyFrom) (as := [.ref 1, .ref 17]) (rest := []) rfl rfl rfl rfl h ?_
    intro I1 L1 h
    show dd_Rn (e + 16) m_X10_back (20, [.ref 0], [], sM Ln I1 L1 c s) _
    refine dd_Rn.cV 4 (pc := 28) (ls := [.ref 0]) (st := [.ref 29, .ref 25]) (x := m_X2_copyFrom) (as := [.ref 25, .ref 29]) (rest := []) rfl rfl rfl rfl h ?_
    intro I2 L2 h
    show dd_Rn (e + 16) m_X10_back (31, [.ref 0], [], sM Ln I2 L2 c s) _
    refine dd_Rn.sub 2 (pc := 35) (ls := [.ref 0]) (st := [.ref 31]) (M := sM Ln I2 L2 c s) (x := m_X0_forget) (as := [.ref 31]) (rest := []) rfl rfl rfl rfl ?_
    show dd_Rn (e + 15) m_X0_forget (0, [.ref 31], [], sM Ln I2 L2 c s) _
    refine dd_Rn.retK 3 (pc := 5) (ls := [.ref 31]) (st := []) (M := sM Ln (dd_u I2 31 (upd (I2 31) 2 0)) L2 c s) (o := (none, .null, sM Ln (dd_u I2 31 (upd (I2 31) 2 0)) L2 c s)) rfl rfl (dd_Af.ret rfl ?_) (by omega)
    show dd_Rn (e + 16) m_X10_back (38, [.ref 0], [], sM Ln (dd_u I2 31 (upd (I2 31) 2 0)) L2 c s) _
    exact dd_Rn.retK 1 (pc := 39) (ls := [.ref 0]) (st := [.int 1]) (M := sM Ln (dd_u I2 31 (upd (I2 31) 2 0)) L2 c s) (o := (none, .int 1, sM Ln (dd_u I2 31 (upd (I2 31) 2 0)) L2 c s)) rfl rfl h (by omega)
