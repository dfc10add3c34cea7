/-! Region lemmas, written by program (gen/regions_all.py) -/
theorem w_X1_thinkFor_0 {Ln d c s : Nat} {I : Nat → Nat → Int32} {L : Nat → Nat → Int64} {Q : dd_O → Prop} {a1 : Int32} (hd : 28 ≤ d) (h : dd_Ev (d - 1) m_X6_follow [.ref 133, .int a1] (sM Ln I L c s) (dd_RV Ln c s (fun I1 L1 => dd_Rn d m_X1_thinkFor (10, [.ref 141, .int a1, .int 0], [], sM Ln I1 L1 c s) Q))) : dd_Ev d m_X1_thinkFor [.ref 141, .int a1] (sM Ln I L c s) Q := by
  obtain ⟨e, rfl⟩ : ∃ e, d = e + 16 := ⟨d - 16, by omega⟩
  show dd_Rn (e + 16) m_X1_thinkFor (0, [.ref 141, .int a1, .null], [], sM Ln I L c s) Q
  refine dd_Rn.cV 3 (pc := 5) (ls := [.ref 141, .int a1, .null]) (st := [.int a1, .ref 133]) (x := m_X6_follow) (as := [.ref 133, .int a1]) (rest := []) rfl rfl rfl rfl h ?_
  intro I1 L1 h
  show dd_Rn (e + 16) m_X1_thinkFor (8, [.ref 141, .int a1, .null], [], sM Ln I1 L1 c s) _
  exact dd_Rn.go 2 (cf' := (10, [.ref 141, .int a1, .int 0], [], sM Ln I1 L1 c s)) rfl h (by omega)

theorem w_X1_thinkFor_10 {Ln d c s : Nat} {I : Nat → Nat → Int32} {L : Nat → Nat → Int64} {Q : dd_O → Prop} {a1 a2 : Int32} (hd : 28 ≤ d) (h : (((8 : Int32) ≤ a2 → Q (none, .null, sM Ln I L c s)) ∧ (¬ ((8 : Int32) ≤ a2) → dd_Ev (d - 1) m_X1_leads [.ref 141, .int 0] (sM Ln (dd_u I 134 (upd (I 134) 7 a2)) L c s) (dd_RL Ln c s (fun x1 I1 L1 => ((0 ≤ a2 ∧ tn a2 < 8) ∧ dd_Ev (d - 1) m_X1_leads [.ref 141, .int 1] (sM Ln I1 (dd_u L1 142 (vp_updL (L1 142) (tn a2) x1)) c s) (dd_RL Ln c s (fun x2 I2 L2 => ((0 ≤ a2 ∧ tn a2 < 8) ∧ dd_Rn d m_X1_thinkFor (10, [.ref 141, .int a1, .int (a2 + 1)], [], sM Ln I2 (dd_u L2 143 (vp_updL (L2 143) (tn a2) x2)) c s) Q))))))))) : dd_Rn d m_X1_thinkFor (10, [.ref 141, .int a1, .int a2], [], sM Ln I L c s) Q := by
  obtain ⟨e, rfl⟩ : ∃ e, d = e + 16 := ⟨d - 16, by omega⟩
  refine dd_Rn.ite 2 (c := (8 : Int32) ≤ a2) (A := (55, [.ref 141, .int a1, .int a2], [], sM Ln I L c s)) (B := (16, [.ref 141, .int a1, .int a2], [], sM Ln I L c s)) rfl (fun hc => ?_) (fun hc => ?_) (by omega)
  · have h := h.1 hc
    exact dd_Rn.retK 0 (pc := 55) (ls := [.ref 141, .int a1, .int a2]) (st := []) (M := sM Ln I L c s) (o := (none, .null, sM Ln I L c s)) rfl rfl h (by omega)
  · have h := h.2 hc
    refine dd_Rn.cL 11 (pc := 34) (ls := [.ref 141, .int a1, .int a2]) (st := [.int 0, .ref 141, .int a2, .ref 142]) (x := m_X1_leads) (as := [.ref 141, .int 0]) (rest := [.int a2, .ref 142]) rfl rfl rfl rfl h ?_
    intro x1 I1 L1 h
    show dd_Rn (e + 16) m_X1_thinkFor (37, [.ref 141, .int a1, .int a2], [.long x1, .int a2, .ref 142], sM Ln I1 L1 c s) _
    obtain ⟨hc, h⟩ := h
    refine dd_Rn.chk 0 (c := 0 ≤ a2 ∧ tn a2 < 8) (A := (38, [.ref 141, .int a1, .int a2], [], sM Ln I1 (dd_u L1 142 (vp_updL (L1 142) (tn a2) x1)) c s)) rfl hc ?_ (by omega)
    refine dd_Rn.cL 5 (pc := 45) (ls := [.ref 141, .int a1, .int a2]) (st := [.int 1, .ref 141, .int a2, .ref 143]) (x := m_X1_leads) (as := [.ref 141, .int 1]) (rest := [.int a2, .ref 143]) rfl rfl rfl rfl h ?_
    intro x2 I2 L2 h
    show dd_Rn (e + 16) m_X1_thinkFor (48, [.ref 141, .int a1, .int a2], [.long x2, .int a2, .ref 143], sM Ln I2 L2 c s) _
    obtain ⟨hc, h⟩ := h
    refine dd_Rn.chk 0 (c := 0 ≤ a2 ∧ tn a2 < 8) (A := (49, [.ref 141, .int a1, .int a2], [], sM Ln I2 (dd_u L2 143 (vp_updL (L2 143) (tn a2) x2)) c s)) rfl hc ?_ (by omega)
    exact dd_Rn.go 2 (cf' := (10, [.ref 141, .int a1, .int (a2 + 1)], [], sM Ln I2 (dd_u L2 143 (vp_updL (L2 143) (tn a2) x2)) c s)) rfl h (by omega)

theorem w_X1_leads_0 {Ln d c s : Nat} {I : Nat → Nat → Int32} {L : Nat → Nat → Int64} {Q : dd_O → Prop} {a1 : Int32} (hd : 28 ≤ d) (h : dd_Rn d m_X1_leads (5, [.ref 141, .int a1, .long (Int64.ofNat 0), .null, .int 0], [], sM Ln I L c s) Q) : dd_Ev d m_X1_leads [.ref 141, .int a1] (sM Ln I L c s) Q := by
  obtain ⟨e, rfl⟩ : ∃ e, d = e + 16 := ⟨d - 16, by omega⟩
  show dd_Rn (e + 16) m_X1_leads (0, [.ref 141, .int a1, .null, .null, .null], [], sM Ln I L c s) Q
  exact dd_Rn.go 4 (cf' := (5, [.ref 141, .int a1, .long (Int64.ofNat 0), .null, .int 0], [], sM Ln I L c s)) rfl h (by omega)

theorem w_X1_leads_5 {Ln d c s : Nat} {I : Nat → Nat → Int32} {L : Nat → Nat → Int64} {Q : dd_O → Prop} {a1 a4 : Int32} {a2 : Int64} (hd : 28 ≤ d) (h : (((64 : Int32) ≤ a4 → Q (none, .long a2, sM Ln I L c s)) ∧ (¬ ((64 : Int32) ≤ a4) → dd_Ev (d - 1) m_X8_isOpen [.ref 1, .int a4] (sM Ln I L c s) (dd_RI Ln c s (fun x1 I1 L1 => ((x1 = 0 → dd_Rn d m_X1_leads (5, [.ref 141, .int a1, .long a2, .null, .int (a4 + 1)], [], sM Ln I1 L1 c s) Q) ∧ (¬ (x1 = 0) → ((a4 = I1 1 13 → dd_Rn d m_X1_leads (5, [.ref 141, .int a1, .long a2, .null, .int (a4 + 1)], [], sM Ln I1 L1 c s) Q) ∧ (¬ (a4 = I1 1 13) → dd_Ev (d - 1) m_X6_standAt [.ref 133, .int a4] (sM Ln I1 L1 c s) (dd_RV Ln c s (fun I2 L2 => dd_Ev (d - 1) m_X6_isLedBy [.ref 133, .int a1] (sM Ln I2 L2 c s) (dd_RI Ln c s (fun x3 I3 L3 => ((x3 = 0 → dd_Rn d m_X1_leads (5, [.ref 141, .int a1, .long a2, .null, .int (a4 + 1)], [], sM Ln I3 L3 c s) Q) ∧ (¬ (x3 = 0) → dd_Rn d m_X1_leads (5, [.ref 141, .int a1, .long (a2 ||| ((Int64.ofNat 1) <<< (a4.toInt64 &&& 63))), .null, .int (a4 + 1)], [], sM Ln I3 L3 c s) Q))))))))))))))) : dd_Rn d m_X1_leads (5, [.ref 141, .int a1, .long a2, .null, .int a4], [], sM Ln I L c s) Q := by
  obtain ⟨e, rfl⟩ : ∃ e, d = e + 16 := ⟨d - 16, by omega⟩
  refine dd_Rn.ite 2 (c := (64 : Int32) ≤ a4) (A := (69, [.ref 141, .int a1, .long a2, .null, .int a4], [], sM Ln I L c s)) (B := (12, [.ref 141, .int a1, .long a2, .null, .int a4], [], sM Ln I L c s)) rfl (fun hc => ?_) (fun hc => ?_) (by omega)
  · have h := h.1 hc
    exact dd_Rn.retK 1 (pc := 70) (ls := [.ref 141, .int a1, .long a2, .null, .int a4]) (st := [.long a2]) (M := sM Ln I L c s) (o := (none, .long a2, sM Ln I L c s)) rfl rfl h (by omega)
  · have h := h.2 hc
    refine dd_Rn.cI 3 (pc := 18) (ls := [.ref 141, .int a1, .long a2, .null, .int a4]) (st := [.int a4, .ref 1]) (x := m_X8_isOpen) (as := [.ref 1, .int a4]) (rest := []) rfl rfl rfl rfl h ?_
    intro x1 I1 L1 h
    show dd_Rn (e + 16) m_X1_leads (21, [.ref 141, .int a1, .long a2, .null, .int a4], [.int x1], sM Ln I1 L1 c s) _
    refine dd_Rn.ite 0 (c := x1 = 0) (A := (63, [.ref 141, .int a1, .long a2, .null, .int a4], [], sM Ln I1 L1 c s)) (B := (24, [.ref 141, .int a1, .long a2, .null, .int a4], [], sM Ln I1 L1 c s)) rfl (fun hc => ?_) (fun hc => ?_) (by omega)
    · have h := h.1 hc
      exact dd_Rn.go 2 (cf' := (5, [.ref 141, .int a1, .long a2, .null, .int (a4 + 1)], [], sM Ln I1 L1 c s)) rfl h (by omega)
    · have h := h.2 hc
      refine dd_Rn.ite 4 (c := a4 = I1 1 13) (A := (63, [.ref 141, .int a1, .long a2, .null, .int a4], [], sM Ln I1 L1 c s)) (B := (36, [.ref 141, .int a1, .long a2, .null, .int a4], [], sM Ln I1 L1 c s)) rfl (fun hc => ?_) (fun hc => ?_) (by omega)
      · have h := h.1 hc
        exact dd_Rn.go 2 (cf' := (5, [.ref 141, .int a1, .long a2, .null, .int (a4 + 1)], [], sM Ln I1 L1 c s)) rfl h (by omega)
      · have h := h.2 hc
        refine dd_Rn.cV 3 (pc := 42) (ls := [.ref 141, .int a1, .long a2, .null, .int a4]) (st := [.int a4, .ref 133]) (x := m_X6_standAt) (as := [.ref 133, .int a4]) (rest := []) rfl rfl rfl rfl h ?_
        intro I2 L2 h
        show dd_Rn (e + 16) m_X1_leads (45, [.ref 141, .int a1, .long a2, .null, .int a4], [], sM Ln I2 L2 c s) _
        refine dd_Rn.cI 3 (pc := 50) (ls := [.ref 141, .int a1, .long a2, .null, .int a4]) (st := [.int a1, .ref 133]) (x := m_X6_isLedBy) (as := [.ref 133, .int a1]) (rest := []) rfl rfl rfl rfl h ?_
        intro x3 I3 L3 h
        show dd_Rn (e + 16) m_X1_leads (53, [.ref 141, .int a1, .long a2, .null, .int a4], [.int x3], sM Ln I3 L3 c s) _
        refine dd_Rn.ite 0 (c := x3 = 0) (A := (63, [.ref 141, .int a1, .long a2, .null, .int a4], [], sM Ln I3 L3 c s)) (B := (56, [.ref 141, .int a1, .long a2, .null, .int a4], [], sM Ln I3 L3 c s)) rfl (fun hc => ?_) (fun hc => ?_) (by omega)
        · have h := h.1 hc
          exact dd_Rn.go 2 (cf' := (5, [.ref 141, .int a1, .long a2, .null, .int (a4 + 1)], [], sM Ln I3 L3 c s)) rfl h (by omega)
        · have h := h.2 hc
          exact dd_Rn.go 8 (cf' := (5, [.ref 141, .int a1, .long (a2 ||| ((Int64.ofNat 1) <<< (a4.toInt64 &&& 63))), .null, .int (a4 + 1)], [], sM Ln I3 L3 c s)) rfl h (by omega)

theorem w_X1_oneBeatOn_0 {Ln d c s : Nat} {I : Nat → Nat → Int32} {L : Nat → Nat → Int64} {Q : dd_O → Prop} {a3 : Int32} {a1 : Int64} (hd : 28 ≤ d) (h : ((0 ≤ a3 ∧ tn a3 < 8) ∧ dd_Ev (d - 1) m_X7_beside [.long (a1 &&& (L 143 (tn a3)))] (sM Ln I L c s) (dd_RL Ln c s (fun x1 I1 L1 => ((0 ≤ a3 ∧ tn a3 < 8) ∧ dd_Rn d m_X1_oneBeatOn (40, [.ref 141, .long a1, .null, .int a3, .long (a1 ||| (x1 &&& ((L1 1 0) ^^^ (Int64.ofNat 18446744073709551615)))), .null, .long (a1 &&& (L1 142 (tn a3))), .null, .int 0], [], sM Ln I1 L1 c s) Q))))) : dd_Ev d m_X1_oneBeatOn [.ref 141, .long a1, .int a3] (sM Ln I L c s) Q := by
  obtain ⟨e, rfl⟩ : ∃ e, d = e + 16 := ⟨d - 16, by omega⟩
  show dd_Rn (e + 16) m_X1_oneBeatOn (0, [.ref 141, .long a1, .null, .int a3, .null, .null, .null, .null, .null], [], sM Ln I L c s) Q
  obtain ⟨hc, h⟩ := h
  refine dd_Rn.chk 5 (c := 0 ≤ a3 ∧ tn a3 < 8) (A := (8, [.ref 141, .long a1, .null, .int a3, .null, .null, .null, .null, .null], [.long (L 143 (tn a3)), .long a1, .long a1], sM Ln I L c s)) rfl hc ?_ (by omega)
  refine dd_Rn.cL 1 (pc := 9) (ls := [.ref 141, .long a1, .null, .int a3, .null, .null, .null, .null, .null]) (st := [.long (a1 &&& (L 143 (tn a3))), .long a1]) (x := m_X7_beside) (as := [.long (a1 &&& (L 143 (tn a3)))]) (rest := [.long a1]) rfl rfl rfl rfl h ?_
  intro x1 I1 L1 h
  show dd_Rn (e + 16) m_X1_oneBeatOn (12, [.ref 141, .long a1, .null, .int a3, .null, .null, .null, .null, .null], [.long x1, .long a1], sM Ln I1 L1 c s) _
  obtain ⟨hc, h⟩ := h
  refine dd_Rn.chk 12 (c := 0 ≤ a3 ∧ tn a3 < 8) (A := (34, [.ref 141, .long a1, .null, .int a3, .long (a1 ||| (x1 &&& ((L1 1 0) ^^^ (Int64.ofNat 18446744073709551615)))), .null, .null, .null, .null], [.long (L1 142 (tn a3)), .long a1], sM Ln I1 L1 c s)) rfl hc ?_ (by omega)
  exact dd_Rn.go 4 (cf' := (40, [.ref 141, .long a1, .null, .int a3, .long (a1 ||| (x1 &&& ((L1 1 0) ^^^ (Int64.ofNat 18446744073709551615)))), .null, .long (a1 &&& (L1 142 (tn a3))), .null, .int 0], [], sM Ln I1 L1 c s)) rfl h (by omega)

theorem w_X1_oneBeatOn_40 {Ln d c s : Nat} {I : Nat → Nat → Int32} {L : Nat → Nat → Int64} {Q : dd_O → Prop} {a3 a8 : Int32} {a1 a4 a6 : Int64} (hd : 28 ≤ d) (h : (((64 : Int32) ≤ a8 → Q (none, .long a4, sM Ln I L c s)) ∧ (¬ ((64 : Int32) ≤ a8) → ((lg_cmp (((a6.toUInt64 >>> (a8.toInt64.toUInt64 &&& Int64.toUInt64 63)).toInt64) &&& (Int64.ofNat 1)) (Int64.ofNat 0) = 0 → dd_Rn d m_X1_oneBeatOn (40, [.ref 141, .long a1, .null, .int a3, .long a4, .null, .long a6, .null, .int (a8 + 1)], [], sM Ln I L c s) Q) ∧ (¬ (lg_cmp (((a6.toUInt64 >>> (a8.toInt64.toUInt64 &&& Int64.toUInt64 63)).toInt64) &&& (Int64.ofNat 1)) (Int64.ofNat 0) = 0) → dd_Ev (d - 1) m_X8_stepNearer [.ref 1, .int a8] (sM Ln I L c s) (dd_RI Ln c s (fun x1 I1 L1 => dd_Rn d m_X1_oneBeatOn (40, [.ref 141, .long a1, .null, .int a3, .long (a4 ||| ((Int64.ofNat 1) <<< (x1.toInt64 &&& 63))), .null, .long a6, .null, .int (a8 + 1)], [], sM Ln I1 L1 c s) Q))))))) : dd_Rn d m_X1_oneBeatOn (40, [.ref 141, .long a1, .null, .int a3, .long a4, .null, .long a6, .null, .int a8], [], sM Ln I L c s) Q := by
  obtain ⟨e, rfl⟩ : ∃ e, d = e + 16 := ⟨d - 16, by omega⟩
  refine dd_Rn.ite 2 (c := (64 : Int32) ≤ a8) (A := (81, [.ref 141, .long a1, .null, .int a3, .long a4, .null, .long a6, .null, .int a8], [], sM Ln I L c s)) (B := (47, [.ref 141, .long a1, .null, .int a3, .long a4, .null, .long a6, .null, .int a8], [], sM Ln I L c s)) rfl (fun hc => ?_) (fun hc => ?_) (by omega)
  · have h := h.1 hc
    exact dd_Rn.retK 1 (pc := 83) (ls := [.ref 141, .long a1, .null, .int a3, .long a4, .null, .long a6, .null, .int a8]) (st := [.long a4]) (M := sM Ln I L c s) (o := (none, .long a4, sM Ln I L c s)) rfl rfl h (by omega)
  · have h := h.2 hc
    refine dd_Rn.ite 7 (c := lg_cmp (((a6.toUInt64 >>> (a8.toInt64.toUInt64 &&& Int64.toUInt64 63)).toInt64) &&& (Int64.ofNat 1)) (Int64.ofNat 0) = 0) (A := (75, [.ref 141, .long a1, .null, .int a3, .long a4, .null, .long a6, .null, .int a8], [], sM Ln I L c s)) (B := (59, [.ref 141, .long a1, .null, .int a3, .long a4, .null, .long a6, .null, .int a8], [], sM Ln I L c s)) rfl (fun hc => ?_) (fun hc => ?_) (by omega)
    · have h := h.1 hc
      exact dd_Rn.go 2 (cf' := (40, [.ref 141, .long a1, .null, .int a3, .long a4, .null, .long a6, .null, .int (a8 + 1)], [], sM Ln I L c s)) rfl h (by omega)
    · have h := h.2 hc
      refine dd_Rn.cI 5 (pc := 68) (ls := [.ref 141, .long a1, .null, .int a3, .long a4, .null, .long a6, .null, .int a8]) (st := [.int a8, .ref 1, .long (Int64.ofNat 1), .long a4]) (x := m_X8_stepNearer) (as := [.ref 1, .int a8]) (rest := [.long (Int64.ofNat 1), .long a4]) rfl rfl rfl rfl h ?_
      intro x1 I1 L1 h
      show dd_Rn (e + 16) m_X1_oneBeatOn (71, [.ref 141, .long a1, .null, .int a3, .long a4, .null, .long a6, .null, .int a8], [.int x1, .long (Int64.ofNat 1), .long a4], sM Ln I1 L1 c s) _
      exact dd_Rn.go 5 (cf' := (40, [.ref 141, .long a1, .null, .int a3, .long (a4 ||| ((Int64.ofNat 1) <<< (x1.toInt64 &&& 63))), .null, .long a6, .null, .int (a8 + 1)], [], sM Ln I1 L1 c s)) rfl h (by omega)

theorem w_X1_fewest_0 {Ln d c s : Nat} {I : Nat → Nat → Int32} {L : Nat → Nat → Int64} {Q : dd_O → Prop} {a1 a2 a3 : Int32} (hd : 28 ≤ d) (h : dd_Rn d m_X1_fewest (8, [.ref 141, .int a1, .int a2, .int a3, .long ((Int64.ofNat 1) <<< (a1.toInt64 &&& 63)), .null, .int 0], [], sM Ln I L c s) Q) : dd_Ev d m_X1_fewest [.ref 141, .int a1, .int a2, .int a3] (sM Ln I L c s) Q := by
  obtain ⟨e, rfl⟩ : ∃ e, d = e + 16 := ⟨d - 16, by omega⟩
  show dd_Rn (e + 16) m_X1_fewest (0, [.ref 141, .int a1, .int a2, .int a3, .null, .null, .null], [], sM Ln I L c s) Q
  exact dd_Rn.go 6 (cf' := (8, [.ref 141, .int a1, .int a2, .int a3, .long ((Int64.ofNat 1) <<< (a1.toInt64 &&& 63)), .null, .int 0], [], sM Ln I L c s)) rfl h (by omega)

theorem w_X1_fewest_8 {Ln d c s : Nat} {I : Nat → Nat → Int32} {L : Nat → Nat → Int64} {Q : dd_O → Prop} {a1 a2 a3 a6 : Int32} {a4 : Int64} (hd : 28 ≤ d) (h : ((a3 < a6 → Q (none, .int (-1), sM Ln I L c s)) ∧ (¬ (a3 < a6) → ((lg_cmp (((a4.toUInt64 >>> ((I 1 13).toInt64.toUInt64 &&& Int64.toUInt64 63)).toInt64) &&& (Int64.ofNat 1)) (Int64.ofNat 0) = 0 → dd_Ev (d - 1) m_X1_oneBeatOn [.ref 141, .long a4, .int ((((I 1 16) + a2) + a6) &&& 7)] (sM Ln I L c s) (dd_RL Ln c s (fun x1 I1 L1 => dd_Rn d m_X1_fewest (8, [.ref 141, .int a1, .int a2, .int a3, .long x1, .null, .int (a6 + 1)], [], sM Ln I1 L1 c s) Q))) ∧ (¬ (lg_cmp (((a4.toUInt64 >>> ((I 1 13).toInt64.toUInt64 &&& Int64.toUInt64 63)).toInt64) &&& (Int64.ofNat 1)) (Int64.ofNat 0) = 0) → Q (none, .int a6, sM Ln I L c s)))))) : dd_Rn d m_X1_fewest (8, [.ref 141, .int a1, .int a2, .int a3, .long a4, .null, .int a6], [], sM Ln I L c s) Q := by
  obtain ⟨e, rfl⟩ : ∃ e, d = e + 16 := ⟨d - 16, by omega⟩
  refine dd_Rn.ite 2 (c := a3 < a6) (A := (63, [.ref 141, .int a1, .int a2, .int a3, .long a4, .null, .int a6], [], sM Ln I L c s)) (B := (14, [.ref 141, .int a1, .int a2, .int a3, .long a4, .null, .int a6], [], sM Ln I L c s)) rfl (fun hc => ?_) (fun hc => ?_) (by omega)
  · have h := h.1 hc
    exact dd_Rn.retK 1 (pc := 64) (ls := [.ref 141, .int a1, .int a2, .int a3, .long a4, .null, .int a6]) (st := [.int (-1)]) (M := sM Ln I L c s) (o := (none, .int (-1), sM Ln I L c s)) rfl rfl h (by omega)
  · have h := h.2 hc
    refine dd_Rn.ite 9 (c := lg_cmp (((a4.toUInt64 >>> ((I 1 13).toInt64.toUInt64 &&& Int64.toUInt64 63)).toInt64) &&& (Int64.ofNat 1)) (Int64.ofNat 0) = 0) (A := (34, [.ref 141, .int a1, .int a2, .int a3, .long a4, .null, .int a6], [], sM Ln I L c s)) (B := (31, [.ref 141, .int a1, .int a2, .int a3, .long a4, .null, .int a6], [], sM Ln I L c s)) rfl (fun hc => ?_) (fun hc => ?_) (by omega)
    · have h := h.1 hc
      refine dd_Rn.cL 11 (pc := 52) (ls := [.ref 141, .int a1, .int a2, .int a3, .long a4, .null, .int a6]) (st := [.int ((((I 1 16) + a2) + a6) &&& 7), .long a4, .ref 141]) (x := m_X1_oneBeatOn) (as := [.ref 141, .long a4, .int ((((I 1 16) + a2) + a6) &&& 7)]) (rest := []) rfl rfl rfl rfl h ?_
      intro x1 I1 L1 h
      show dd_Rn (e + 16) m_X1_fewest (55, [.ref 141, .int a1, .int a2, .int a3, .long a4, .null, .int a6], [.long x1], sM Ln I1 L1 c s) _
      exact dd_Rn.go 3 (cf' := (8, [.ref 141, .int a1, .int a2, .int a3, .long x1, .null, .int (a6 + 1)], [], sM Ln I1 L1 c s)) rfl h (by omega)
    · have h := h.2 hc
      exact dd_Rn.retK 1 (pc := 33) (ls := [.ref 141, .int a1, .int a2, .int a3, .long a4, .null, .int a6]) (st := [.int a6]) (M := sM Ln I L c s) (o := (none, .int a6, sM Ln I L c s)) rfl rfl h (by omega)

theorem w_X1_leastFirst_0 {Ln d c s : Nat} {I : Nat → Nat → Int32} {L : Nat → Nat → Int64} {Q : dd_O → Prop} {a1 : Int32} (hd : 28 ≤ d) (h : dd_Ev (d - 1) m_X1_thinkFor [.ref 141, .int a1] (sM Ln I L c s) (dd_RV Ln c s (fun I1 L1 => ((0 ≤ a1 ∧ tn a1 < 6) ∧ dd_Ev (d - 1) m_X1_fewest [.ref 141, .int (I1 4 (tn a1)), .int 0, .int 64] (sM Ln I1 L1 c s) (dd_RI Ln c s (fun x2 I2 L2 => dd_Rn d m_X1_leastFirst (27, [.ref 141, .int a1, .int (I1 4 (tn a1)), .int x2, .int 0], [], sM Ln I2 L2 c s) Q)))))) : dd_Ev d m_X1_leastFirst [.ref 141, .int a1] (sM Ln I L c s) Q := by
  obtain ⟨e, rfl⟩ : ∃ e, d = e + 16 := ⟨d - 16, by omega⟩
  show dd_Rn (e + 16) m_X1_leastFirst (0, [.ref 141, .int a1, .null, .null, .null], [], sM Ln I L c s) Q
  refine dd_Rn.cV 2 (pc := 2) (ls := [.ref 141, .int a1, .null, .null, .null]) (st := [.int a1, .ref 141]) (x := m_X1_thinkFor) (as := [.ref 141, .int a1]) (rest := []) rfl rfl rfl rfl h ?_
  intro I1 L1 h
  show dd_Rn (e + 16) m_X1_leastFirst (5, [.ref 141, .int a1, .null, .null, .null], [], sM Ln I1 L1 c s) _
  obtain ⟨hc, h⟩ := h
  refine dd_Rn.chk 4 (c := 0 ≤ a1 ∧ tn a1 < 6) (A := (14, [.ref 141, .int a1, .null, .null, .null], [.int (I1 4 (tn a1))], sM Ln I1 L1 c s)) rfl hc ?_ (by omega)
  refine dd_Rn.cI 5 (pc := 20) (ls := [.ref 141, .int a1, .int (I1 4 (tn a1)), .null, .null]) (st := [.int 64, .int 0, .int (I1 4 (tn a1)), .ref 141]) (x := m_X1_fewest) (as := [.ref 141, .int (I1 4 (tn a1)), .int 0, .int 64]) (rest := []) rfl rfl rfl rfl h ?_
  intro x2 I2 L2 h
  show dd_Rn (e + 16) m_X1_leastFirst (23, [.ref 141, .int a1, .int (I1 4 (tn a1)), .null, .null], [.int x2], sM Ln I2 L2 c s) _
  exact dd_Rn.go 3 (cf' := (27, [.ref 141, .int a1, .int (I1 4 (tn a1)), .int x2, .int 0], [], sM Ln I2 L2 c s)) rfl h (by omega)

theorem w_X1_leastFirst_27 {Ln d c s : Nat} {I : Nat → Nat → Int32} {L : Nat → Nat → Int64} {Q : dd_O → Prop} {a1 a2 a3 a4 : Int32} (hd : 28 ≤ d) (h : (((8 : Int32) ≤ a4 → Q (none, .int (-1), sM Ln I L c s)) ∧ (¬ ((8 : Int32) ≤ a4) → ((a3 = (-1) → Q (none, .int (-1), sM Ln I L c s)) ∧ (¬ (a3 = (-1)) → dd_Ev (d - 1) m_X1_ledTo [.ref 141, .int a2, .int a4] (sM Ln I L c s) (dd_RI Ln c s (fun x1 I1 L1 => dd_Ev (d - 1) m_X1_fewest [.ref 141, .int x1, .int 1, .int (a3 - 1)] (sM Ln I1 L1 c s) (dd_RI Ln c s (fun x2 I2 L2 => ((x2 = (-1) → dd_Rn d m_X1_leastFirst (27, [.ref 141, .int a1, .int a2, .int a3, .int (a4 + 1)], [], sM Ln I2 L2 c s) Q) ∧ (¬ (x2 = (-1)) → Q (none, .int a4, sM Ln I2 L2 c s)))))))))))) : dd_Rn d m_X1_leastFirst (27, [.ref 141, .int a1, .int a2, .int a3, .int a4], [], sM Ln I L c s) Q := by
  obtain ⟨e, rfl⟩ : ∃ e, d = e + 16 := ⟨d - 16, by omega⟩
  refine dd_Rn.ite 2 (c := (8 : Int32) ≤ a4) (A := (67, [.ref 141, .int a1, .int a2, .int a3, .int a4], [], sM Ln I L c s)) (B := (34, [.ref 141, .int a1, .int a2, .int a3, .int a4], [], sM Ln I L c s)) rfl (fun hc => ?_) (fun hc => ?_) (by omega)
  · have h := h.1 hc
    exact dd_Rn.retK 1 (pc := 68) (ls := [.ref 141, .int a1, .int a2, .int a3, .int a4]) (st := [.int (-1)]) (M := sM Ln I L c s) (o := (none, .int (-1), sM Ln I L c s)) rfl rfl h (by omega)
  · have h := h.2 hc
    refine dd_Rn.ite 2 (c := a3 = (-1)) (A := (67, [.ref 141, .int a1, .int a2, .int a3, .int a4], [], sM Ln I L c s)) (B := (39, [.ref 141, .int a1, .int a2, .int a3, .int a4], [], sM Ln I L c s)) rfl (fun hc => ?_) (fun hc => ?_) (by omega)
    · have h := h.1 hc
      exact dd_Rn.retK 1 (pc := 68) (ls := [.ref 141, .int a1, .int a2, .int a3, .int a4]) (st := [.int (-1)]) (M := sM Ln I L c s) (o := (none, .int (-1), sM Ln I L c s)) rfl rfl h (by omega)
    · have h := h.2 hc
      refine dd_Rn.cI 4 (pc := 44) (ls := [.ref 141, .int a1, .int a2, .int a3, .int a4]) (st := [.int a4, .int a2, .ref 141, .ref 141]) (x := m_X1_ledTo) (as := [.ref 141, .int a2, .int a4]) (rest := [.ref 141]) rfl rfl rfl rfl h ?_
      intro x1 I1 L1 h
      show dd_Rn (e + 16) m_X1_leastFirst (47, [.ref 141, .int a1, .int a2, .int a3, .int a4], [.int x1, .ref 141], sM Ln I1 L1 c s) _
      refine dd_Rn.cI 4 (pc := 51) (ls := [.ref 141, .int a1, .int a2, .int a3, .int a4]) (st := [.int (a3 - 1), .int 1, .int x1, .ref 141]) (x := m_X1_fewest) (as := [.ref 141, .int x1, .int 1, .int (a3 - 1)]) (rest := []) rfl rfl rfl rfl h ?_
      intro x2 I2 L2 h
      show dd_Rn (e + 16) m_X1_leastFirst (54, [.ref 141, .int a1, .int a2, .int a3, .int a4], [.int x2], sM Ln I2 L2 c s) _
      refine dd_Rn.ite 1 (c := x2 = (-1)) (A := (61, [.ref 141, .int a1, .int a2, .int a3, .int a4], [], sM Ln I2 L2 c s)) (B := (58, [.ref 141, .int a1, .int a2, .int a3, .int a4], [], sM Ln I2 L2 c s)) rfl (fun hc => ?_) (fun hc => ?_) (by omega)
      · have h := h.1 hc
        exact dd_Rn.go 2 (cf' := (27, [.ref 141, .int a1, .int a2, .int a3, .int (a4 + 1)], [], sM Ln I2 L2 c s)) rfl h (by omega)
      · have h := h.2 hc
        exact dd_Rn.retK 1 (pc := 60) (ls := [.ref 141, .int a1, .int a2, .int a3, .int a4]) (st := [.int a4]) (M := sM Ln I2 L2 c s) (o := (none, .int a4, sM Ln I2 L2 c s)) rfl rfl h (by omega)

theorem w_X1_ledTo_0 {Ln d c s : Nat} {I : Nat → Nat → Int32} {L : Nat → Nat → Int64} {Q : dd_O → Prop} {a1 a2 : Int32} (hd : 28 ≤ d) (h : ((a2 = 0 → ((0 ≤ (I 1 16) &&& 7 ∧ tn ((I 1 16) &&& 7) < 8) ∧ ((lg_cmp ((((L 142 (tn ((I 1 16) &&& 7))).toUInt64 >>> (a1.toInt64.toUInt64 &&& Int64.toUInt64 63)).toInt64) &&& (Int64.ofNat 1)) (Int64.ofNat 0) = 0 → Q (none, .int a1, sM Ln I L c s)) ∧ (¬ (lg_cmp ((((L 142 (tn ((I 1 16) &&& 7))).toUInt64 >>> (a1.toInt64.toUInt64 &&& Int64.toUInt64 63)).toInt64) &&& (Int64.ofNat 1)) (Int64.ofNat 0) = 0) → ((a2 = 0 → dd_Ev (d - 1) m_X8_stepNearer [.ref 1, .int a1] (sM Ln I L c s) (dd_RI Ln c s (fun x1 I1 L1 => Q (none, .int x1, sM Ln I1 L1 c s)))) ∧ (¬ (a2 = 0) → dd_Ev (d - 1) m_X8_stepTo [.ref 1, .int a1, .int a2] (sM Ln I L c s) (dd_RI Ln c s (fun x2 I2 L2 => Q (none, .int x2, sM Ln I2 L2 c s))))))))) ∧ (¬ (a2 = 0) → ((0 ≤ (I 1 16) &&& 7 ∧ tn ((I 1 16) &&& 7) < 8) ∧ ((lg_cmp ((((L 143 (tn ((I 1 16) &&& 7))).toUInt64 >>> (a1.toInt64.toUInt64 &&& Int64.toUInt64 63)).toInt64) &&& (Int64.ofNat 1)) (Int64.ofNat 0) = 0 → Q (none, .int a1, sM Ln I L c s)) ∧ (¬ (lg_cmp ((((L 143 (tn ((I 1 16) &&& 7))).toUInt64 >>> (a1.toInt64.toUInt64 &&& Int64.toUInt64 63)).toInt64) &&& (Int64.ofNat 1)) (Int64.ofNat 0) = 0) → ((a2 = 0 → dd_Ev (d - 1) m_X8_stepNearer [.ref 1, .int a1] (sM Ln I L c s) (dd_RI Ln c s (fun x3 I3 L3 => Q (none, .int x3, sM Ln I3 L3 c s)))) ∧ (¬ (a2 = 0) → dd_Ev (d - 1) m_X8_stepTo [.ref 1, .int a1, .int a2] (sM Ln I L c s) (dd_RI Ln c s (fun x4 I4 L4 => Q (none, .int x4, sM Ln I4 L4 c s))))))))))) : dd_Ev d m_X1_ledTo [.ref 141, .int a1, .int a2] (sM Ln I L c s) Q := by
  obtain ⟨e, rfl⟩ : ∃ e, d = e + 16 := ⟨d - 16, by omega⟩
  show dd_Rn (e + 16) m_X1_ledTo (0, [.ref 141, .int a1, .int a2, .null, .null], [], sM Ln I L c s) Q
  refine dd_Rn.ite 1 (c := a2 = 0) (A := (4, [.ref 141, .int a1, .int a2, .null, .null], [], sM Ln I L c s)) (B := (22, [.ref 141, .int a1, .int a2, .null, .null], [], sM Ln I L c s)) rfl (fun hc => ?_) (fun hc => ?_) (by omega)
  · have h := h.1 hc
    obtain ⟨hc, h⟩ := h
    refine dd_Rn.go 7 (cf' := (18, [.ref 141, .int a1, .int a2, .null, .null], [.int ((I 1 16) &&& 7), .ref 142], sM Ln I L c s)) rfl ?_ (by omega)
    refine dd_Rn.ci (fun j0 => (18, [.ref 141, .int a1, .int a2, .null, .null], [.int j0, .ref 142], sM Ln I L c s)) (fun j0 => (19, [.ref 141, .int a1, .int a2, .null, .null], [.long (L 142 (tn j0))], sM Ln I L c s)) (fun j0 => 0 ≤ j0 ∧ tn j0 < 8) ((I 1 16) &&& 7) (fun j0 hc h => dd_Rn.chk 0 (c := 0 ≤ j0 ∧ tn j0 < 8) (A := (19, [.ref 141, .int a1, .int a2, .null, .null], [.long (L 142 (tn j0))], sM Ln I L c s)) rfl hc h (by omega)) hc ?_
    refine dd_Rn.se (cf := (19, [.ref 141, .int a1, .int a2, .null, .null], [.long (L 142 (tn ((I 1 16) &&& 7)))], sM Ln I L c s)) ?_
    refine dd_Rn.ite 9 (c := lg_cmp ((((L 142 (tn ((I 1 16) &&& 7))).toUInt64 >>> (a1.toInt64.toUInt64 &&& Int64.toUInt64 63)).toInt64) &&& (Int64.ofNat 1)) (Int64.ofNat 0) = 0) (A := (48, [.ref 141, .int a1, .int a2, .long (L 142 (tn ((I 1 16) &&& 7))), .null], [], sM Ln I L c s)) (B := (50, [.ref 141, .int a1, .int a2, .long (L 142 (tn ((I 1 16) &&& 7))), .null], [], sM Ln I L c s)) rfl (fun hc => ?_) (fun hc => ?_) (by omega)
    · have h := h.1 hc
      exact dd_Rn.retK 1 (pc := 49) (ls := [.ref 141, .int a1, .int a2, .long (L 142 (tn ((I 1 16) &&& 7))), .null]) (st := [.int a1]) (M := sM Ln I L c s) (o := (none, .int a1, sM Ln I L c s)) rfl rfl h (by omega)
    · have h := h.2 hc
      refine dd_Rn.ite 1 (c := a2 = 0) (A := (54, [.ref 141, .int a1, .int a2, .long (L 142 (tn ((I 1 16) &&& 7))), .null], [], sM Ln I L c s)) (B := (65, [.ref 141, .int a1, .int a2, .long (L 142 (tn ((I 1 16) &&& 7))), .null], [], sM Ln I L c s)) rfl (fun hc => ?_) (fun hc => ?_) (by omega)
      · have h := h.1 hc
        refine dd_Rn.cI 3 (pc := 59) (ls := [.ref 141, .int a1, .int a2, .long (L 142 (tn ((I 1 16) &&& 7))), .null]) (st := [.int a1, .ref 1]) (x := m_X8_stepNearer) (as := [.ref 1, .int a1]) (rest := []) rfl rfl rfl rfl h ?_
        intro x1 I1 L1 h
        show dd_Rn (e + 16) m_X1_ledTo (62, [.ref 141, .int a1, .int a2, .long (L 142 (tn ((I 1 16) &&& 7))), .null], [.int x1], sM Ln I1 L1 c s) _
        exact dd_Rn.retK 1 (pc := 74) (ls := [.ref 141, .int a1, .int a2, .long (L 142 (tn ((I 1 16) &&& 7))), .null]) (st := [.int x1]) (M := sM Ln I1 L1 c s) (o := (none, .int x1, sM Ln I1 L1 c s)) rfl rfl h (by omega)
      · have h := h.2 hc
        refine dd_Rn.cI 4 (pc := 71) (ls := [.ref 141, .int a1, .int a2, .long (L 142 (tn ((I 1 16) &&& 7))), .null]) (st := [.int a2, .int a1, .ref 1]) (x := m_X8_stepTo) (as := [.ref 1, .int a1, .int a2]) (rest := []) rfl rfl rfl rfl h ?_
        intro x2 I2 L2 h
        show dd_Rn (e + 16) m_X1_ledTo (74, [.ref 141, .int a1, .int a2, .long (L 142 (tn ((I 1 16) &&& 7))), .null], [.int x2], sM Ln I2 L2 c s) _
        exact dd_Rn.retK 0 (pc := 74) (ls := [.ref 141, .int a1, .int a2, .long (L 142 (tn ((I 1 16) &&& 7))), .null]) (st := [.int x2]) (M := sM Ln I2 L2 c s) (o := (none, .int x2, sM Ln I2 L2 c s)) rfl rfl h (by omega)
  · have h := h.2 hc
    obtain ⟨hc, h⟩ := h
    refine dd_Rn.go 7 (cf' := (36, [.ref 141, .int a1, .int a2, .null, .null], [.int ((I 1 16) &&& 7), .ref 143], sM Ln I L c s)) rfl ?_ (by omega)
    refine dd_Rn.ci (fun j0 => (36, [.ref 141, .int a1, .int a2, .null, .null], [.int j0, .ref 143], sM Ln I L c s)) (fun j0 => (37, [.ref 141, .int a1, .int a2, .null, .null], [.long (L 143 (tn j0))], sM Ln I L c s)) (fun j0 => 0 ≤ j0 ∧ tn j0 < 8) ((I 1 16) &&& 7) (fun j0 hc h => dd_Rn.chk 0 (c := 0 ≤ j0 ∧ tn j0 < 8) (A := (37, [.ref 141, .int a1, .int a2, .null, .null], [.long (L 143 (tn j0))], sM Ln I L c s)) rfl hc h (by omega)) hc ?_
    refine dd_Rn.se (cf := (37, [.ref 141, .int a1, .int a2, .null, .null], [.long (L 143 (tn ((I 1 16) &&& 7)))], sM Ln I L c s)) ?_
    refine dd_Rn.ite 8 (c := lg_cmp ((((L 143 (tn ((I 1 16) &&& 7))).toUInt64 >>> (a1.toInt64.toUInt64 &&& Int64.toUInt64 63)).toInt64) &&& (Int64.ofNat 1)) (Int64.ofNat 0) = 0) (A := (48, [.ref 141, .int a1, .int a2, .long (L 143 (tn ((I 1 16) &&& 7))), .null], [], sM Ln I L c s)) (B := (50, [.ref 141, .int a1, .int a2, .long (L 143 (tn ((I 1 16) &&& 7))), .null], [], sM Ln I L c s)) rfl (fun hc => ?_) (fun hc => ?_) (by omega)
    · have h := h.1 hc
      exact dd_Rn.retK 1 (pc := 49) (ls := [.ref 141, .int a1, .int a2, .long (L 143 (tn ((I 1 16) &&& 7))), .null]) (st := [.int a1]) (M := sM Ln I L c s) (o := (none, .int a1, sM Ln I L c s)) rfl rfl h (by omega)
    · have h := h.2 hc
      refine dd_Rn.ite 1 (c := a2 = 0) (A := (54, [.ref 141, .int a1, .int a2, .long (L 143 (tn ((I 1 16) &&& 7))), .null], [], sM Ln I L c s)) (B := (65, [.ref 141, .int a1, .int a2, .long (L 143 (tn ((I 1 16) &&& 7))), .null], [], sM Ln I L c s)) rfl (fun hc => ?_) (fun hc => ?_) (by omega)
      · have h := h.1 hc
        refine dd_Rn.cI 3 (pc := 59) (ls := [.ref 141, .int a1, .int a2, .long (L 143 (tn ((I 1 16) &&& 7))), .null]) (st := [.int a1, .ref 1]) (x := m_X8_stepNearer) (as := [.ref 1, .int a1]) (rest := []) rfl rfl rfl rfl h ?_
        intro x3 I3 L3 h
        show dd_Rn (e + 16) m_X1_ledTo (62, [.ref 141, .int a1, .int a2, .long (L 143 (tn ((I 1 16) &&& 7))), .null], [.int x3], sM Ln I3 L3 c s) _
        exact dd_Rn.retK 1 (pc := 74) (ls := [.ref 141, .int a1, .int a2, .long (L 143 (tn ((I 1 16) &&& 7))), .null]) (st := [.int x3]) (M := sM Ln I3 L3 c s) (o := (none, .int x3, sM Ln I3 L3 c s)) rfl rfl h (by omega)
      · have h := h.2 hc
        refine dd_Rn.cI 4 (pc := 71) (ls := [.ref 141, .int a1, .int a2, .long (L 143 (tn ((I 1 16) &&& 7))), .null]) (st := [.int a2, .int a1, .ref 1]) (x := m_X8_stepTo) (as := [.ref 1, .int a1, .int a2]) (rest := []) rfl rfl rfl rfl h ?_
        intro x4 I4 L4 h
        show dd_Rn (e + 16) m_X1_ledTo (74, [.ref 141, .int a1, .int a2, .long (L 143 (tn ((I 1 16) &&& 7))), .null], [.int x4], sM Ln I4 L4 c s) _
        exact dd_Rn.retK 0 (pc := 74) (ls := [.ref 141, .int a1, .int a2, .long (L 143 (tn ((I 1 16) &&& 7))), .null]) (st := [.int x4]) (M := sM Ln I4 L4 c s) (o := (none, .int x4, sM Ln I4 L4 c s)) rfl rfl h (by omega)

theorem w_X1_reachedIn_0 {Ln d c s : Nat} {I : Nat → Nat → Int32} {L : Nat → Nat → Int64} {Q : dd_O → Prop} {a1 a2 : Int32} (hd : 28 ≤ d) (h : dd_Rn d m_X1_reachedIn (7, [.ref 141, .int a1, .int a2, .long ((Int64.ofNat 1) <<< (a1.toInt64 &&& 63)), .null, .int 0], [], sM Ln I L c s) Q) : dd_Ev d m_X1_reachedIn [.ref 141, .int a1, .int a2] (sM Ln I L c s) Q := by
  obtain ⟨e, rfl⟩ : ∃ e, d = e + 16 := ⟨d - 16, by omega⟩
  show dd_Rn (e + 16) m_X1_reachedIn (0, [.ref 141, .int a1, .int a2, .null, .null, .null], [], sM Ln I L c s) Q
  exact dd_Rn.go 6 (cf' := (7, [.ref 141, .int a1, .int a2, .long ((Int64.ofNat 1) <<< (a1.toInt64 &&& 63)), .null, .int 0], [], sM Ln I L c s)) rfl h (by omega)

theorem w_X1_reachedIn_7 {Ln d c s : Nat} {I : Nat → Nat → Int32} {L : Nat → Nat → Int64} {Q : dd_O → Prop} {a1 a2 a5 : Int32} {a3 : Int64} (hd : 28 ≤ d) (h : ((a2 ≤ a5 → dd_Ev (d - 1) m_J13_bitCount_95d88 [.long a3] (sM Ln I L c s) (dd_RI Ln c s (fun x1 I1 L1 => Q (none, .int x1, sM Ln I1 L1 c s)))) ∧ (¬ (a2 ≤ a5) → dd_Ev (d - 1) m_X1_oneBeatOn [.ref 141, .long a3, .int (((I 1 16) + a5) &&& 7)] (sM Ln I L c s) (dd_RL Ln c s (fun x2 I2 L2 => dd_Rn d m_X1_reachedIn (7, [.ref 141, .int a1, .int a2, .long x2, .null, .int (a5 + 1)], [], sM Ln I2 L2 c s) Q))))) : dd_Rn d m_X1_reachedIn (7, [.ref 141, .int a1, .int a2, .long a3, .null, .int a5], [], sM Ln I L c s) Q := by
  obtain ⟨e, rfl⟩ : ∃ e, d = e + 16 := ⟨d - 16, by omega⟩
  refine dd_Rn.ite 2 (c := a2 ≤ a5) (A := (38, [.ref 141, .int a1, .int a2, .long a3, .null, .int a5], [], sM Ln I L c s)) (B := (13, [.ref 141, .int a1, .int a2, .long a3, .null, .int a5], [], sM Ln I L c s)) rfl (fun hc => ?_) (fun hc => ?_) (by omega)
  · have h := h.1 hc
    refine dd_Rn.cI 1 (pc := 39) (ls := [.ref 141, .int a1, .int a2, .long a3, .null, .int a5]) (st := [.long a3]) (x := m_J13_bitCount_95d88) (as := [.long a3]) (rest := []) rfl rfl rfl rfl h ?_
    intro x1 I1 L1 h
    show dd_Rn (e + 16) m_X1_reachedIn (42, [.ref 141, .int a1, .int a2, .long a3, .null, .int a5], [.int x1], sM Ln I1 L1 c s) _
    exact dd_Rn.retK 0 (pc := 42) (ls := [.ref 141, .int a1, .int a2, .long a3, .null, .int a5]) (st := [.int x1]) (M := sM Ln I1 L1 c s) (o := (none, .int x1, sM Ln I1 L1 c s)) rfl rfl h (by omega)
  · have h := h.2 hc
    refine dd_Rn.cL 9 (pc := 28) (ls := [.ref 141, .int a1, .int a2, .long a3, .null, .int a5]) (st := [.int (((I 1 16) + a5) &&& 7), .long a3, .ref 141]) (x := m_X1_oneBeatOn) (as := [.ref 141, .long a3, .int (((I 1 16) + a5) &&& 7)]) (rest := []) rfl rfl rfl rfl h ?_
    intro x2 I2 L2 h
    show dd_Rn (e + 16) m_X1_reachedIn (31, [.ref 141, .int a1, .int a2, .long a3, .null, .int a5], [.long x2], sM Ln I2 L2 c s) _
    exact dd_Rn.go 3 (cf' := (7, [.ref 141, .int a1, .int a2, .long x2, .null, .int (a5 + 1)], [], sM Ln I2 L2 c s)) rfl h (by omega)

theorem w_X5_hearAll_0 {Ln d c s : Nat} {I : Nat → Nat → Int32} {L : Nat → Nat → Int64} {Q : dd_O → Prop} {a2 : Int32} (hd : 28 ≤ d) (h : (((40 : Int32) < a2 → Q (none, .int 0, sM Ln I L c s)) ∧ (¬ ((40 : Int32) < a2) → ((a2 - a2 / 2 * 2 = 0 → dd_Ev (d - 1) m_J7_fill_53178 [.ref 145, .int (-1)] (sM Ln I L c s) (dd_RV Ln c s (fun I1 L1 => dd_Rn d m_X5_hearAll (24, [.ref 144, .ref 129, .int a2, .int 0, .null, .null, .null], [], sM Ln I1 L1 c s) Q))) ∧ (¬ (a2 - a2 / 2 * 2 = 0) → Q (none, .int 0, sM Ln I L c s)))))) : dd_Ev d m_X5_hearAll [.ref 144, .ref 129, .int a2] (sM Ln I L c s) Q := by
  obtain ⟨e, rfl⟩ : ∃ e, d = e + 16 := ⟨d - 16, by omega⟩
  show dd_Rn (e + 16) m_X5_hearAll (0, [.ref 144, .ref 129, .int a2, .null, .null, .null, .null], [], sM Ln I L c s) Q
  refine dd_Rn.ite 2 (c := (40 : Int32) < a2) (A := (12, [.ref 144, .ref 129, .int a2, .null, .null, .null, .null], [], sM Ln I L c s)) (B := (6, [.ref 144, .ref 129, .int a2, .null, .null, .null, .null], [], sM Ln I L c s)) rfl (fun hc => ?_) (fun hc => ?_) (by omega)
  · have h := h.1 hc
    exact dd_Rn.retK 1 (pc := 13) (ls := [.ref 144, .ref 129, .int a2, .null, .null, .null, .null]) (st := [.int 0]) (M := sM Ln I L c s) (o := (none, .int 0, sM Ln I L c s)) rfl rfl h (by omega)
  · have h := h.2 hc
    refine dd_Rn.ite 3 (c := a2 - a2 / 2 * 2 = 0) (A := (14, [.ref 144, .ref 129, .int a2, .null, .null, .null, .null], [], sM Ln I L c s)) (B := (12, [.ref 144, .ref 129, .int a2, .null, .null, .null, .null], [], sM Ln I L c s)) rfl (fun hc => ?_) (fun hc => ?_) (by omega)
    · have h := h.1 hc
      refine dd_Rn.cV 3 (pc := 19) (ls := [.ref 144, .ref 129, .int a2, .null, .null, .null, .null]) (st := [.int (-1), .ref 145]) (x := m_J7_fill_53178) (as := [.ref 145, .int (-1)]) (rest := []) rfl rfl rfl rfl h ?_
      intro I1 L1 h
      show dd_Rn (e + 16) m_X5_hearAll (22, [.ref 144, .ref 129, .int a2, .null, .null, .null, .null], [], sM Ln I1 L1 c s) _
      exact dd_Rn.go 2 (cf' := (24, [.ref 144, .ref 129, .int a2, .int 0, .null, .null, .null], [], sM Ln I1 L1 c s)) rfl h (by omega)
    · have h := h.2 hc
      exact dd_Rn.retK 1 (pc := 13) (ls := [.ref 144, .ref 129, .int a2, .null, .null, .null, .null]) (st := [.int 0]) (M := sM Ln I L c s) (o := (none, .int 0, sM Ln I L c s)) rfl rfl h (by omega)

theorem w_X5_hearAll_24 {Ln d c s : Nat} {I : Nat → Nat → Int32} {L : Nat → Nat → Int64} {Q : dd_O → Prop} {a2 a3 : Int32} {a4 a5 a6 : Value} (hd : 28 ≤ d) (h : ((a2 ≤ a3 + 1 → Q (none, .int 1, sM Ln I L c s)) ∧ (¬ (a2 ≤ a3 + 1) → ((0 ≤ a3 ∧ tn a3 < 400) ∧ ((0 ≤ a3 + 1 ∧ tn (a3 + 1) < 400) ∧ (((31 : Int32) ≤ I 129 (tn a3) → Q (none, .int 0, sM Ln I L c s)) ∧ (¬ ((31 : Int32) ≤ I 129 (tn a3)) → ((I 129 (tn (a3 + 1)) < 15 → ((0 ≤ I 129 (tn a3) ∧ tn (I 129 (tn a3)) < 31) ∧ ((I 145 (tn (I 129 (tn a3))) = (-1) → ((0 ≤ I 129 (tn a3) ∧ tn (I 129 (tn a3)) < 31) ∧ dd_Rn d m_X5_hearAll (24, [.ref 144, .ref 129, .int a2, .int (a3 + 2), .int (I 129 (tn a3)), .int (I 129 (tn (a3 + 1))), .int 1], [], sM Ln (dd_u I 145 (upd (I 145) (tn (I 129 (tn a3))) (I 129 (tn (a3 + 1))))) L c s) Q)) ∧ (¬ (I 145 (tn (I 129 (tn a3))) = (-1)) → ((0 ≤ I 129 (tn a3) ∧ tn (I 129 (tn a3)) < 31) ∧ ((I 145 (tn (I 129 (tn a3))) = I 129 (tn (a3 + 1)) → ((0 ≤ I 129 (tn a3) ∧ tn (I 129 (tn a3)) < 31) ∧ dd_Rn d m_X5_hearAll (24, [.ref 144, .ref 129, .int a2, .int (a3 + 2), .int (I 129 (tn a3)), .int (I 129 (tn (a3 + 1))), .int 1], [], sM Ln (dd_u I 145 (upd (I 145) (tn (I 129 (tn a3))) (I 129 (tn (a3 + 1))))) L c s) Q)) ∧ (¬ (I 145 (tn (I 129 (tn a3))) = I 129 (tn (a3 + 1))) → ((0 ≤ I 129 (tn a3) ∧ tn (I 129 (tn a3)) < 31) ∧ dd_Rn d m_X5_hearAll (24, [.ref 144, .ref 129, .int a2, .int (a3 + 2), .int (I 129 (tn a3)), .int (I 129 (tn (a3 + 1))), .int 0], [], sM Ln (dd_u I 145 (upd (I 145) (tn (I 129 (tn a3))) 15)) L c s) Q)))))))) ∧ (¬ (I 129 (tn (a3 + 1)) < 15) → Q (none, .int 0, sM Ln I L c s)))))))))) : dd_Rn d m_X5_hearAll (24, [.ref 144, .ref 129, .int a2, .int a3, a4, a5, a6], [], sM Ln I L c s) Q := by
  obtain ⟨e, rfl⟩ : ∃ e, d = e + 16 := ⟨d - 16, by omega⟩
  refine dd_Rn.ite 4 (c := a2 ≤ a3 + 1) (A := (114, [.ref 144, .ref 129, .int a2, .int a3, a4, a5, a6], [], sM Ln I L c s)) (B := (31, [.ref 144, .ref 129, .int a2, .int a3, a4, a5, a6], [], sM Ln I L c s)) rfl (fun hc => ?_) (fun hc => ?_) (by omega)
  · have h := h.1 hc
    exact dd_Rn.retK 1 (pc := 115) (ls := [.ref 144, .ref 129, .int a2, .int a3, a4, a5, a6]) (st := [.int 1]) (M := sM Ln I L c s) (o := (none, .int 1, sM Ln I L c s)) rfl rfl h (by omega)
  · have h := h.2 hc
    obtain ⟨hc, h⟩ := h
    refine dd_Rn.chk 2 (c := 0 ≤ a3 ∧ tn a3 < 400) (A := (34, [.ref 144, .ref 129, .int a2, .int a3, a4, a5, a6], [.int (I 129 (tn a3))], sM Ln I L c s)) rfl hc ?_ (by omega)
    obtain ⟨hc, h⟩ := h
    refine dd_Rn.go 5 (cf' := (40, [.ref 144, .ref 129, .int a2, .int a3, .int (I 129 (tn a3)), a5, a6], [.int (a3 + 1), .ref 129], sM Ln I L c s)) rfl ?_ (by omega)
    refine dd_Rn.ci (fun j0 => (40, [.ref 144, .ref 129, .int a2, .int a3, .int (I 129 (tn a3)), a5, a6], [.int j0, .ref 129], sM Ln I L c s)) (fun j0 => (41, [.ref 144, .ref 129, .int a2, .int a3, .int (I 129 (tn a3)), a5, a6], [.int (I 129 (tn j0))], sM Ln I L c s)) (fun j0 => 0 ≤ j0 ∧ tn j0 < 400) (a3 + 1) (fun j0 hc h => dd_Rn.chk 0 (c := 0 ≤ j0 ∧ tn j0 < 400) (A := (41, [.ref 144, .ref 129, .int a2, .int a3, .int (I 129 (tn a3)), a5, a6], [.int (I 129 (tn j0))], sM Ln I L c s)) rfl hc h (by omega)) hc ?_
    refine dd_Rn.se (cf := (41, [.ref 144, .ref 129, .int a2, .int a3, .int (I 129 (tn a3)), a5, a6], [.int (I 129 (tn (a3 + 1)))], sM Ln I L c s)) ?_
    refine dd_Rn.ite 3 (c := (31 : Int32) ≤ I 129 (tn a3)) (A := (57, [.ref 144, .ref 129, .int a2, .int a3, .int (I 129 (tn a3)), .int (I 129 (tn (a3 + 1))), a6], [], sM Ln I L c s)) (B := (50, [.ref 144, .ref 129, .int a2, .int a3, .int (I 129 (tn a3)), .int (I 129 (tn (a3 + 1))), a6], [], sM Ln I L c s)) rfl (fun hc => ?_) (fun hc => ?_) (by omega)
    · have h := h.1 hc
      exact dd_Rn.retK 1 (pc := 58) (ls := [.ref 144, .ref 129, .int a2, .int a3, .int (I 129 (tn a3)), .int (I 129 (tn (a3 + 1))), a6]) (st := [.int 0]) (M := sM Ln I L c s) (o := (none, .int 0, sM Ln I L c s)) rfl rfl h (by omega)
    · have h := h.2 hc
      refine dd_Rn.ite 2 (c := I 129 (tn (a3 + 1)) < 15) (A := (59, [.ref 144, .ref 129, .int a2, .int a3, .int (I 129 (tn a3)), .int (I 129 (tn (a3 + 1))), a6], [], sM Ln I L c s)) (B := (57, [.ref 144, .ref 129, .int a2, .int a3, .int (I 129 (tn a3)), .int (I 129 (tn (a3 + 1))), a6], [], sM Ln I L c s)) rfl (fun hc => ?_) (fun hc => ?_) (by omega)
      · have h := h.1 hc
        obtain ⟨hc, h⟩ := h
        refine dd_Rn.go 3 (cf' := (65, [.ref 144, .ref 129, .int a2, .int a3, .int (I 129 (tn a3)), .int (I 129 (tn (a3 + 1))), a6], [.int (I 129 (tn a3)), .ref 145], sM Ln I L c s)) rfl ?_ (by omega)
        refine dd_Rn.ci (fun j0 => (65, [.ref 144, .ref 129, .int a2, .int a3, .int (I 129 (tn a3)), .int (I 129 (tn (a3 + 1))), a6], [.int j0, .ref 145], sM Ln I L c s)) (fun j0 => (66, [.ref 144, .ref 129, .int a2, .int a3, .int (I 129 (tn a3)), .int (I 129 (tn (a3 + 1))), a6], [.int (I 145 (tn j0))], sM Ln I L c s)) (fun j0 => 0 ≤ j0 ∧ tn j0 < 31) (I 129 (tn a3)) (fun j0 hc h => dd_Rn.chk 0 (c := 0 ≤ j0 ∧ tn j0 < 31) (A := (66, [.ref 144, .ref 129, .int a2, .int a3, .int (I 129 (tn a3)), .int (I 129 (tn (a3 + 1))), a6], [.int (I 145 (tn j0))], sM Ln I L c s)) rfl hc h (by omega)) hc ?_
        refine dd_Rn.se (cf := (66, [.ref 144, .ref 129, .int a2, .int a3, .int (I 129 (tn a3)), .int (I 129 (tn (a3 + 1))), a6], [.int (I 145 (tn (I 129 (tn a3))))], sM Ln I L c s)) ?_
        refine dd_Rn.ite 1 (c := I 145 (tn (I 129 (tn a3))) = (-1)) (A := (82, [.ref 144, .ref 129, .int a2, .int a3, .int (I 129 (tn a3)), .int (I 129 (tn (a3 + 1))), a6], [], sM Ln I L c s)) (B := (70, [.ref 144, .ref 129, .int a2, .int a3, .int (I 129 (tn a3)), .int (I 129 (tn (a3 + 1))), a6], [], sM Ln I L c s)) rfl (fun hc => ?_) (fun hc => ?_) (by omega)
        · have h := h.1 hc
          obtain ⟨hc, h⟩ := h
          refine dd_Rn.go 10 (cf' := (107, [.ref 144, .ref 129, .int a2, .int a3, .int (I 129 (tn a3)), .int (I 129 (tn (a3 + 1))), .int 1], [.int (I 129 (tn (a3 + 1))), .int (I 129 (tn a3)), .ref 145], sM Ln I L c s)) rfl ?_ (by omega)
          refine dd_Rn.ci (fun j0 => (107, [.ref 144, .ref 129, .int a2, .int a3, .int (I 129 (tn a3)), .int (I 129 (tn (a3 + 1))), .int 1], [.int (I 129 (tn (a3 + 1))), .int j0, .ref 145], sM Ln I L c s)) (fun j0 => (108, [.ref 144, .ref 129, .int a2, .int a3, .int (I 129 (tn a3)), .int (I 129 (tn (a3 + 1))), .int 1], [], sM Ln (dd_u I 145 (upd (I 145) (tn j0) (I 129 (tn (a3 + 1))))) L c s)) (fun j0 => 0 ≤ j0 ∧ tn j0 < 31) (I 129 (tn a3)) (fun j0 hc h => dd_Rn.chk 0 (c := 0 ≤ j0 ∧ tn j0 < 31) (A := (108, [.ref 144, .ref 129, .int a2, .int a3, .int (I 129 (tn a3)), .int (I 129 (tn (a3 + 1))), .int 1], [], sM Ln (dd_u I 145 (upd (I 145) (tn j0) (I 129 (tn (a3 + 1))))) L c s)) rfl hc h (by omega)) hc ?_
          refine dd_Rn.se (cf := (108, [.ref 144, .ref 129, .int a2, .int a3, .int (I 129 (tn a3)), .int (I 129 (tn (a3 + 1))), .int 1], [], sM Ln (dd_u I 145 (upd (I 145) (tn (I 129 (tn a3))) (I 129 (tn (a3 + 1))))) L c s)) ?_
          exact dd_Rn.go 2 (cf' := (24, [.ref 144, .ref 129, .int a2, .int (a3 + 2), .int (I 129 (tn a3)), .int (I 129 (tn (a3 + 1))), .int 1], [], sM Ln (dd_u I 145 (upd (I 145) (tn (I 129 (tn a3))) (I 129 (tn (a3 + 1))))) L c s)) rfl h (by omega)
        · have h := h.2 hc
          obtain ⟨hc, h⟩ := h
          refine dd_Rn.go 3 (cf' := (76, [.ref 144, .ref 129, .int a2, .int a3, .int (I 129 (tn a3)), .int (I 129 (tn (a3 + 1))), a6], [.int (I 129 (tn a3)), .ref 145], sM Ln I L c s)) rfl ?_ (by omega)
          refine dd_Rn.ci (fun j0 => (76, [.ref 144, .ref 129, .int a2, .int a3, .int (I 129 (tn a3)), .int (I 129 (tn (a3 + 1))), a6], [.int j0, .ref 145], sM Ln I L c s)) (fun j0 => (77, [.ref 144, .ref 129, .int a2, .int a3, .int (I 129 (tn a3)), .int (I 129 (tn (a3 + 1))), a6], [.int (I 145 (tn j0))], sM Ln I L c s)) (fun j0 => 0 ≤ j0 ∧ tn j0 < 31) (I 129 (tn a3)) (fun j0 hc h => dd_Rn.chk 0 (c := 0 ≤ j0 ∧ tn j0 < 31) (A := (77, [.ref 144, .ref 129, .int a2, .int a3, .int (I 129 (tn a3)), .int (I 129 (tn (a3 + 1))), a6], [.int (I 145 (tn j0))], sM Ln I L c s)) rfl hc h (by omega)) hc ?_
          refine dd_Rn.se (cf := (77, [.ref 144, .ref 129, .int a2, .int a3, .int (I 129 (tn a3)), .int (I 129 (tn (a3 + 1))), a6], [.int (I 145 (tn (I 129 (tn a3))))], sM Ln I L c s)) ?_
          refine dd_Rn.ite 1 (c := I 145 (tn (I 129 (tn a3))) = I 129 (tn (a3 + 1))) (A := (82, [.ref 144, .ref 129, .int a2, .int a3, .int (I 129 (tn a3)), .int (I 129 (tn (a3 + 1))), a6], [], sM Ln I L c s)) (B := (86, [.ref 144, .ref 129, .int a2, .int a3, .int (I 129 (tn a3)), .int (I 129 (tn (a3 + 1))), a6], [], sM Ln I L c s)) rfl (fun hc => ?_) (fun hc => ?_) (by omega)
          · have h := h.1 hc
            obtain ⟨hc, h⟩ := h
            refine dd_Rn.go 10 (cf' := (107, [.ref 144, .ref 129, .int a2, .int a3, .int (I 129 (tn a3)), .int (I 129 (tn (a3 + 1))), .int 1], [.int (I 129 (tn (a3 + 1))), .int (I 129 (tn a3)), .ref 145], sM Ln I L c s)) rfl ?_ (by omega)
            refine dd_Rn.ci (fun j0 => (107, [.ref 144, .ref 129, .int a2, .int a3, .int (I 129 (tn a3)), .int (I 129 (tn (a3 + 1))), .int 1], [.int (I 129 (tn (a3 + 1))), .int j0, .ref 145], sM Ln I L c s)) (fun j0 => (108, [.ref 144, .ref 129, .int a2, .int a3, .int (I 129 (tn a3)), .int (I 129 (tn (a3 + 1))), .int 1], [], sM Ln (dd_u I 145 (upd (I 145) (tn j0) (I 129 (tn (a3 + 1))))) L c s)) (fun j0 => 0 ≤ j0 ∧ tn j0 < 31) (I 129 (tn a3)) (fun j0 hc h => dd_Rn.chk 0 (c := 0 ≤ j0 ∧ tn j0 < 31) (A := (108, [.ref 144, .ref 129, .int a2, .int a3, .int (I 129 (tn a3)), .int (I 129 (tn (a3 + 1))), .int 1], [], sM Ln (dd_u I 145 (upd (I 145) (tn j0) (I 129 (tn (a3 + 1))))) L c s)) rfl hc h (by omega)) hc ?_
            refine dd_Rn.se (cf := (108, [.ref 144, .ref 129, .int a2, .int a3, .int (I 129 (tn a3)), .int (I 129 (tn (a3 + 1))), .int 1], [], sM Ln (dd_u I 145 (upd (I 145) (tn (I 129 (tn a3))) (I 129 (tn (a3 + 1))))) L c s)) ?_
            exact dd_Rn.go 2 (cf' := (24, [.ref 144, .ref 129, .int a2, .int (a3 + 2), .int (I 129 (tn a3)), .int (I 129 (tn (a3 + 1))), .int 1], [], sM Ln (dd_u I 145 (upd (I 145) (tn (I 129 (tn a3))) (I 129 (tn (a3 + 1))))) L c s)) rfl h (by omega)
          · have h := h.2 hc
            obtain ⟨hc, h⟩ := h
            refine dd_Rn.go 8 (cf' := (107, [.ref 144, .ref 129, .int a2, .int a3, .int (I 129 (tn a3)), .int (I 129 (tn (a3 + 1))), .int 0], [.int 15, .int (I 129 (tn a3)), .ref 145], sM Ln I L c s)) rfl ?_ (by omega)
            refine dd_Rn.ci (fun j0 => (107, [.ref 144, .ref 129, .int a2, .int a3, .int (I 129 (tn a3)), .int (I 129 (tn (a3 + 1))), .int 0], [.int 15, .int j0, .ref 145], sM Ln I L c s)) (fun j0 => (108, [.ref 144, .ref 129, .int a2, .int a3, .int (I 129 (tn a3)), .int (I 129 (tn (a3 + 1))), .int 0], [], sM Ln (dd_u I 145 (upd (I 145) (tn j0) 15)) L c s)) (fun j0 => 0 ≤ j0 ∧ tn j0 < 31) (I 129 (tn a3)) (fun j0 hc h => dd_Rn.chk 0 (c := 0 ≤ j0 ∧ tn j0 < 31) (A := (108, [.ref 144, .ref 129, .int a2, .int a3, .int (I 129 (tn a3)), .int (I 129 (tn (a3 + 1))), .int 0], [], sM Ln (dd_u I 145 (upd (I 145) (tn j0) 15)) L c s)) rfl hc h (by omega)) hc ?_
            refine dd_Rn.se (cf := (108, [.ref 144, .ref 129, .int a2, .int a3, .int (I 129 (tn a3)), .int (I 129 (tn (a3 + 1))), .int 0], [], sM Ln (dd_u I 145 (upd (I 145) (tn (I 129 (tn a3))) 15)) L c s)) ?_
            exact dd_Rn.go 2 (cf' := (24, [.ref 144, .ref 129, .int a2, .int (a3 + 2), .int (I 129 (tn a3)), .int (I 129 (tn (a3 + 1))), .int 0], [], sM Ln (dd_u I 145 (upd (I 145) (tn (I 129 (tn a3))) 15)) L c s)) rfl h (by omega)
      · have h := h.2 hc
        exact dd_Rn.retK 1 (pc := 58) (ls := [.ref 144, .ref 129, .int a2, .int a3, .int (I 129 (tn a3)), .int (I 129 (tn (a3 + 1))), a6]) (st := [.int 0]) (M := sM Ln I L c s) (o := (none, .int 0, sM Ln I L c s)) rfl rfl h (by omega)

theorem w_X5_fits_0 {Ln d c s : Nat} {I : Nat → Nat → Int32} {L : Nat → Nat → Int64} {Q : dd_O → Prop} {a1 : Int32} (hd : 28 ≤ d) (h : dd_Ev (d - 1) m_X8_isOpen [.ref 1, .int a1] (sM Ln I L c s) (dd_RI Ln c s (fun x1 I1 L1 => ((x1 = 0 → Q (none, .int 0, sM Ln I1 L1 c s)) ∧ (¬ (x1 = 0) → dd_Ev (d - 1) m_X6_become [.ref 133, .int 0, .int 0, .int 15, .int 0] (sM Ln I1 L1 c s) (dd_RV Ln c s (fun I2 L2 => dd_Ev (d - 1) m_X6_standAt [.ref 133, .int a1] (sM Ln I2 L2 c s) (dd_RV Ln c s (fun I3 L3 => dd_Rn d m_X5_fits (35, [.ref 144, .int a1, .int 0], [], sM Ln I3 L3 c s) Q))))))))) : dd_Ev d m_X5_fits [.ref 144, .int a1] (sM Ln I L c s) Q := by
  obtain ⟨e, rfl⟩ : ∃ e, d = e + 16 := ⟨d - 16, by omega⟩
  show dd_Rn (e + 16) m_X5_fits (0, [.ref 144, .int a1, .null], [], sM Ln I L c s) Q
  refine dd_Rn.cI 3 (pc := 5) (ls := [.ref 144, .int a1, .null]) (st := [.int a1, .ref 1]) (x := m_X8_isOpen) (as := [.ref 1, .int a1]) (rest := []) rfl rfl rfl rfl h ?_
  intro x1 I1 L1 h
  show dd_Rn (e + 16) m_X5_fits (8, [.ref 144, .int a1, .null], [.int x1], sM Ln I1 L1 c s) _
  refine dd_Rn.ite 0 (c := x1 = 0) (A := (11, [.ref 144, .int a1, .null], [], sM Ln I1 L1 c s)) (B := (13, [.ref 144, .int a1, .null], [], sM Ln I1 L1 c s)) rfl (fun hc => ?_) (fun hc => ?_) (by omega)
  · have h := h.1 hc
    exact dd_Rn.retK 1 (pc := 12) (ls := [.ref 144, .int a1, .null]) (st := [.int 0]) (M := sM Ln I1 L1 c s) (o := (none, .int 0, sM Ln I1 L1 c s)) rfl rfl h (by omega)
  · have h := h.2 hc
    refine dd_Rn.cV 6 (pc := 22) (ls := [.ref 144, .int a1, .null]) (st := [.int 0, .int 15, .int 0, .int 0, .ref 133]) (x := m_X6_become) (as := [.ref 133, .int 0, .int 0, .int 15, .int 0]) (rest := []) rfl rfl rfl rfl h ?_
    intro I2 L2 h
    show dd_Rn (e + 16) m_X5_fits (25, [.ref 144, .int a1, .null], [], sM Ln I2 L2 c s) _
    refine dd_Rn.cV 3 (pc := 30) (ls := [.ref 144, .int a1, .null]) (st := [.int a1, .ref 133]) (x := m_X6_standAt) (as := [.ref 133, .int a1]) (rest := []) rfl rfl rfl rfl h ?_
    intro I3 L3 h
    show dd_Rn (e + 16) m_X5_fits (33, [.ref 144, .int a1, .null], [], sM Ln I3 L3 c s) _
    exact dd_Rn.go 2 (cf' := (35, [.ref 144, .int a1, .int 0], [], sM Ln I3 L3 c s)) rfl h (by omega)

theorem w_X5_fits_35 {Ln d c s : Nat} {I : Nat → Nat → Int32} {L : Nat → Nat → Int64} {Q : dd_O → Prop} {a1 a2 : Int32} (hd : 28 ≤ d) (h : (((31 : Int32) ≤ a2 → Q (none, .int 1, sM Ln I L c s)) ∧ (¬ ((31 : Int32) ≤ a2) → ((0 ≤ a2 ∧ tn a2 < 31) ∧ ((0 ≤ a2 ∧ tn a2 < 31) ∧ ((I 145 (tn a2) = (-1) → dd_Ev (d - 1) m_X6_beatAhead [.ref 133] (sM Ln (dd_u I 146 (upd (I 146) (tn a2) (I 134 5))) L c s) (dd_RV Ln c s (fun I1 L1 => dd_Rn d m_X5_fits (35, [.ref 144, .int a1, .int (a2 + 1)], [], sM Ln I1 L1 c s) Q))) ∧ (¬ (I 145 (tn a2) = (-1)) → ((0 ≤ a2 ∧ tn a2 < 31) ∧ ((0 ≤ a2 ∧ tn a2 < 31) ∧ ((I 145 (tn a2) = (upd (I 146) (tn a2) (I 134 5)) (tn a2) → dd_Ev (d - 1) m_X6_beatAhead [.ref 133] (sM Ln (dd_u I 146 (upd (I 146) (tn a2) (I 134 5))) L c s) (dd_RV Ln c s (fun I2 L2 => dd_Rn d m_X5_fits (35, [.ref 144, .int a1, .int (a2 + 1)], [], sM Ln I2 L2 c s) Q))) ∧ (¬ (I 145 (tn a2) = (upd (I 146) (tn a2) (I 134 5)) (tn a2)) → Q (none, .int 0, sM Ln (dd_u I 146 (upd (I 146) (tn a2) (I 134 5))) L c s)))))))))))) : dd_Rn d m_X5_fits (35, [.ref 144, .int a1, .int a2], [], sM Ln I L c s) Q := by
  obtain ⟨e, rfl⟩ : ∃ e, d = e + 16 := ⟨d - 16, by omega⟩
  refine dd_Rn.ite 2 (c := (31 : Int32) ≤ a2) (A := (96, [.ref 144, .int a1, .int a2], [], sM Ln I L c s)) (B := (41, [.ref 144, .int a1, .int a2], [], sM Ln I L c s)) rfl (fun hc => ?_) (fun hc => ?_) (by omega)
  · have h := h.1 hc
    exact dd_Rn.retK 1 (pc := 97) (ls := [.ref 144, .int a1, .int a2]) (st := [.int 1]) (M := sM Ln I L c s) (o := (none, .int 1, sM Ln I L c s)) rfl rfl h (by omega)
  · have h := h.2 hc
    obtain ⟨hc, h⟩ := h
    refine dd_Rn.chk 8 (c := 0 ≤ a2 ∧ tn a2 < 31) (A := (56, [.ref 144, .int a1, .int a2], [], sM Ln (dd_u I 146 (upd (I 146) (tn a2) (I 134 5))) L c s)) rfl hc ?_ (by omega)
    obtain ⟨hc, h⟩ := h
    refine dd_Rn.chk 3 (c := 0 ≤ a2 ∧ tn a2 < 31) (A := (62, [.ref 144, .int a1, .int a2], [.int (I 145 (tn a2))], sM Ln (dd_u I 146 (upd (I 146) (tn a2) (I 134 5))) L c s)) rfl hc ?_ (by omega)
    refine dd_Rn.ite 1 (c := I 145 (tn a2) = (-1)) (A := (83, [.ref 144, .int a1, .int a2], [], sM Ln (dd_u I 146 (upd (I 146) (tn a2) (I 134 5))) L c s)) (B := (66, [.ref 144, .int a1, .int a2], [], sM Ln (dd_u I 146 (upd (I 146) (tn a2) (I 134 5))) L c s)) rfl (fun hc => ?_) (fun hc => ?_) (by omega)
    · have h := h.1 hc
      refine dd_Rn.cV 2 (pc := 87) (ls := [.ref 144, .int a1, .int a2]) (st := [.ref 133]) (x := m_X6_beatAhead) (as := [.ref 133]) (rest := []) rfl rfl rfl rfl h ?_
      intro I1 L1 h
      show dd_Rn (e + 16) m_X5_fits (90, [.ref 144, .int a1, .int a2], [], sM Ln I1 L1 c s) _
      exact dd_Rn.go 2 (cf' := (35, [.ref 144, .int a1, .int (a2 + 1)], [], sM Ln I1 L1 c s)) rfl h (by omega)
    · have h := h.2 hc
      obtain ⟨hc, h⟩ := h
      refine dd_Rn.chk 3 (c := 0 ≤ a2 ∧ tn a2 < 31) (A := (72, [.ref 144, .int a1, .int a2], [.int (I 145 (tn a2))], sM Ln (dd_u I 146 (upd (I 146) (tn a2) (I 134 5))) L c s)) rfl hc ?_ (by omega)
      obtain ⟨hc, h⟩ := h
      refine dd_Rn.chk 3 (c := 0 ≤ a2 ∧ tn a2 < 31) (A := (78, [.ref 144, .int a1, .int a2], [.int ((upd (I 146) (tn a2) (I 134 5)) (tn a2)), .int (I 145 (tn a2))], sM Ln (dd_u I 146 (upd (I 146) (tn a2) (I 134 5))) L c s)) rfl hc ?_ (by omega)
      refine dd_Rn.ite 0 (c := I 145 (tn a2) = (upd (I 146) (tn a2) (I 134 5)) (tn a2)) (A := (83, [.ref 144, .int a1, .int a2], [], sM Ln (dd_u I 146 (upd (I 146) (tn a2) (I 134 5))) L c s)) (B := (81, [.ref 144, .int a1, .int a2], [], sM Ln (dd_u I 146 (upd (I 146) (tn a2) (I 134 5))) L c s)) rfl (fun hc => ?_) (fun hc => ?_) (by omega)
      · have h := h.1 hc
        refine dd_Rn.cV 2 (pc := 87) (ls := [.ref 144, .int a1, .int a2]) (st := [.ref 133]) (x := m_X6_beatAhead) (as := [.ref 133]) (rest := []) rfl rfl rfl rfl h ?_
        intro I2 L2 h
        show dd_Rn (e + 16) m_X5_fits (90, [.ref 144, .int a1, .int a2], [], sM Ln I2 L2 c s) _
        exact dd_Rn.go 2 (cf' := (35, [.ref 144, .int a1, .int (a2 + 1)], [], sM Ln I2 L2 c s)) rfl h (by omega)
      · have h := h.2 hc
        exact dd_Rn.retK 1 (pc := 82) (ls := [.ref 144, .int a1, .int a2]) (st := [.int 0]) (M := sM Ln (dd_u I 146 (upd (I 146) (tn a2) (I 134 5))) L c s) (o := (none, .int 0, sM Ln (dd_u I 146 (upd (I 146) (tn a2) (I 134 5))) L c s)) rfl rfl h (by omega)

theorem w_X5_leastCell_0 {Ln d c s : Nat} {I : Nat → Nat → Int32} {L : Nat → Nat → Int64} {Q : dd_O → Prop} (hd : 28 ≤ d) (h : dd_Rn d m_X5_leastCell (2, [.ref 144, .int 0], [], sM Ln I L c s) Q) : dd_Ev d m_X5_leastCell [.ref 144] (sM Ln I L c s) Q := by
  obtain ⟨e, rfl⟩ : ∃ e, d = e + 16 := ⟨d - 16, by omega⟩
  show dd_Rn (e + 16) m_X5_leastCell (0, [.ref 144, .null], [], sM Ln I L c s) Q
  exact dd_Rn.go 2 (cf' := (2, [.ref 144, .int 0], [], sM Ln I L c s)) rfl h (by omega)

theorem w_X5_leastCell_2 {Ln d c s : Nat} {I : Nat → Nat → Int32} {L : Nat → Nat → Int64} {Q : dd_O → Prop} {a1 : Int32} (hd : 28 ≤ d) (h : (((64 : Int32) ≤ a1 → Q (none, .int (-1), sM Ln I L c s)) ∧ (¬ ((64 : Int32) ≤ a1) → dd_Ev (d - 1) m_X5_fits [.ref 144, .int a1] (sM Ln I L c s) (dd_RI Ln c s (fun x1 I1 L1 => ((x1 = 0 → dd_Rn d m_X5_leastCell (2, [.ref 144, .int (a1 + 1)], [], sM Ln I1 L1 c s) Q) ∧ (¬ (x1 = 0) → Q (none, .int a1, sM Ln I1 L1 c s)))))))) : dd_Rn d m_X5_leastCell (2, [.ref 144, .int a1], [], sM Ln I L c s) Q := by
  obtain ⟨e, rfl⟩ : ∃ e, d = e + 16 := ⟨d - 16, by omega⟩
  refine dd_Rn.ite 2 (c := (64 : Int32) ≤ a1) (A := (24, [.ref 144, .int a1], [], sM Ln I L c s)) (B := (8, [.ref 144, .int a1], [], sM Ln I L c s)) rfl (fun hc => ?_) (fun hc => ?_) (by omega)
  · have h := h.1 hc
    exact dd_Rn.retK 1 (pc := 25) (ls := [.ref 144, .int a1]) (st := [.int (-1)]) (M := sM Ln I L c s) (o := (none, .int (-1), sM Ln I L c s)) rfl rfl h (by omega)
  · have h := h.2 hc
    refine dd_Rn.cI 2 (pc := 10) (ls := [.ref 144, .int a1]) (st := [.int a1, .ref 144]) (x := m_X5_fits) (as := [.ref 144, .int a1]) (rest := []) rfl rfl rfl rfl h ?_
    intro x1 I1 L1 h
    show dd_Rn (e + 16) m_X5_leastCell (13, [.ref 144, .int a1], [.int x1], sM Ln I1 L1 c s) _
    refine dd_Rn.ite 0 (c := x1 = 0) (A := (18, [.ref 144, .int a1], [], sM Ln I1 L1 c s)) (B := (16, [.ref 144, .int a1], [], sM Ln I1 L1 c s)) rfl (fun hc => ?_) (fun hc => ?_) (by omega)
    · have h := h.1 hc
      exact dd_Rn.go 2 (cf' := (2, [.ref 144, .int (a1 + 1)], [], sM Ln I1 L1 c s)) rfl h (by omega)
    · have h := h.2 hc
      exact dd_Rn.retK 1 (pc := 17) (ls := [.ref 144, .int a1]) (st := [.int a1]) (M := sM Ln I1 L1 c s) (o := (none, .int a1, sM Ln I1 L1 c s)) rfl rfl h (by omega)

theorem w_X5_cellCount_0 {Ln d c s : Nat} {I : Nat → Nat → Int32} {L : Nat → Nat → Int64} {Q : dd_O → Prop} (hd : 28 ≤ d) (h : dd_Rn d m_X5_cellCount (4, [.ref 144, .int 0, .int 0], [], sM Ln I L c s) Q) : dd_Ev d m_X5_cellCount [.ref 144] (sM Ln I L c s) Q := by
  obtain ⟨e, rfl⟩ : ∃ e, d = e + 16 := ⟨d - 16, by omega⟩
  show dd_Rn (e + 16) m_X5_cellCount (0, [.ref 144, .null, .null], [], sM Ln I L c s) Q
  exact dd_Rn.go 4 (cf' := (4, [.ref 144, .int 0, .int 0], [], sM Ln I L c s)) rfl h (by omega)

theorem w_X5_cellCount_4 {Ln d c s : Nat} {I : Nat → Nat → Int32} {L : Nat → Nat → Int64} {Q : dd_O → Prop} {a1 a2 : Int32} (hd : 28 ≤ d) (h : (((64 : Int32) ≤ a2 → Q (none, .int a1, sM Ln I L c s)) ∧ (¬ ((64 : Int32) ≤ a2) → dd_Ev (d - 1) m_X5_fits [.ref 144, .int a2] (sM Ln I L c s) (dd_RI Ln c s (fun x1 I1 L1 => ((x1 = 0 → dd_Rn d m_X5_cellCount (4, [.ref 144, .int a1, .int (a2 + 1)], [], sM Ln I1 L1 c s) Q) ∧ (¬ (x1 = 0) → dd_Rn d m_X5_cellCount (4, [.ref 144, .int (a1 + 1), .int (a2 + 1)], [], sM Ln I1 L1 c s) Q))))))) : dd_Rn d m_X5_cellCount (4, [.ref 144, .int a1, .int a2], [], sM Ln I L c s) Q := by
  obtain ⟨e, rfl⟩ : ∃ e, d = e + 16 := ⟨d - 16, by omega⟩
  refine dd_Rn.ite 2 (c := (64 : Int32) ≤ a2) (A := (27, [.ref 144, .int a1, .int a2], [], sM Ln I L c s)) (B := (10, [.ref 144, .int a1, .int a2], [], sM Ln I L c s)) rfl (fun hc => ?_) (fun hc => ?_) (by omega)
  · have h := h.1 hc
    exact dd_Rn.retK 1 (pc := 28) (ls := [.ref 144, .int a1, .int a2]) (st := [.int a1]) (M := sM Ln I L c s) (o := (none, .int a1, sM Ln I L c s)) rfl rfl h (by omega)
  · have h := h.2 hc
    refine dd_Rn.cI 2 (pc := 12) (ls := [.ref 144, .int a1, .int a2]) (st := [.int a2, .ref 144]) (x := m_X5_fits) (as := [.ref 144, .int a2]) (rest := []) rfl rfl rfl rfl h ?_
    intro x1 I1 L1 h
    show dd_Rn (e + 16) m_X5_cellCount (15, [.ref 144, .int a1, .int a2], [.int x1], sM Ln I1 L1 c s) _
    refine dd_Rn.ite 0 (c := x1 = 0) (A := (21, [.ref 144, .int a1, .int a2], [], sM Ln I1 L1 c s)) (B := (18, [.ref 144, .int a1, .int a2], [], sM Ln I1 L1 c s)) rfl (fun hc => ?_) (fun hc => ?_) (by omega)
    · have h := h.1 hc
      exact dd_Rn.go 2 (cf' := (4, [.ref 144, .int a1, .int (a2 + 1)], [], sM Ln I1 L1 c s)) rfl h (by omega)
    · have h := h.2 hc
      exact dd_Rn.go 3 (cf' := (4, [.ref 144, .int (a1 + 1), .int (a2 + 1)], [], sM Ln I1 L1 c s)) rfl h (by omega)

theorem w_X5_bestBeat_0 {Ln d c s : Nat} {I : Nat → Nat → Int32} {L : Nat → Nat → Int64} {Q : dd_O → Prop} (hd : 28 ≤ d) (h : dd_Ev (d - 1) m_J7_fill_53178 [.ref 147, .int 0] (sM Ln I L c s) (dd_RV Ln c s (fun I1 L1 => dd_Rn d m_X5_bestBeat (12, [.ref 144, .int 0, .int 0, .null], [], sM Ln I1 L1 c s) Q))) : dd_Ev d m_X5_bestBeat [.ref 144] (sM Ln I L c s) Q := by
  obtain ⟨e, rfl⟩ : ∃ e, d = e + 16 := ⟨d - 16, by omega⟩
  show dd_Rn (e + 16) m_X5_bestBeat (0, [.ref 144, .null, .null, .null], [], sM Ln I L c s) Q
  refine dd_Rn.cV 5 (pc := 7) (ls := [.ref 144, .int 0, .null, .null]) (st := [.int 0, .ref 147]) (x := m_J7_fill_53178) (as := [.ref 147, .int 0]) (rest := []) rfl rfl rfl rfl h ?_
  intro I1 L1 h
  show dd_Rn (e + 16) m_X5_bestBeat (10, [.ref 144, .int 0, .null, .null], [], sM Ln I1 L1 c s) _
  exact dd_Rn.go 2 (cf' := (12, [.ref 144, .int 0, .int 0, .null], [], sM Ln I1 L1 c s)) rfl h (by omega)

theorem w_X5_bestBeat_12 {Ln d c s : Nat} {I : Nat → Nat → Int32} {L : Nat → Nat → Int64} {Q : dd_O → Prop} {a1 a2 : Int32} {a3 : Value} (hd : 28 ≤ d) (h : (((64 : Int32) ≤ a2 → (((2 : Int32) ≤ a1 → dd_Ev (d - 1) m_X5_leastGreatest [.ref 144] (sM Ln I L c s) (dd_RI Ln c s (fun x1 I1 L1 => Q (none, .int x1, sM Ln I1 L1 c s)))) ∧ (¬ ((2 : Int32) ≤ a1) → Q (none, .int (-1), sM Ln I L c s)))) ∧ (¬ ((64 : Int32) ≤ a2) → dd_Ev (d - 1) m_X5_fits [.ref 144, .int a2] (sM Ln I L c s) (dd_RI Ln c s (fun x2 I2 L2 => ((x2 = 0 → dd_Rn d m_X5_bestBeat (12, [.ref 144, .int a1, .int (a2 + 1), a3], [], sM Ln I2 L2 c s) Q) ∧ (¬ (x2 = 0) → dd_Rn d m_X5_bestBeat (31, [.ref 144, .int (a1 + 1), .int a2, .int 0], [], sM Ln I2 L2 c s) Q))))))) : dd_Rn d m_X5_bestBeat (12, [.ref 144, .int a1, .int a2, a3], [], sM Ln I L c s) Q := by
  obtain ⟨e, rfl⟩ : ∃ e, d = e + 16 := ⟨d - 16, by omega⟩
  refine dd_Rn.ite 2 (c := (64 : Int32) ≤ a2) (A := (69, [.ref 144, .int a1, .int a2, a3], [], sM Ln I L c s)) (B := (18, [.ref 144, .int a1, .int a2, a3], [], sM Ln I L c s)) rfl (fun hc => ?_) (fun hc => ?_) (by omega)
  · have h := h.1 hc
    refine dd_Rn.ite 2 (c := (2 : Int32) ≤ a1) (A := (78, [.ref 144, .int a1, .int a2, a3], [], sM Ln I L c s)) (B := (74, [.ref 144, .int a1, .int a2, a3], [], sM Ln I L c s)) rfl (fun hc => ?_) (fun hc => ?_) (by omega)
    · have h := h.1 hc
      refine dd_Rn.cI 1 (pc := 79) (ls := [.ref 144, .int a1, .int a2, a3]) (st := [.ref 144]) (x := m_X5_leastGreatest) (as := [.ref 144]) (rest := []) rfl rfl rfl rfl h ?_
      intro x1 I1 L1 h
      show dd_Rn (e + 16) m_X5_bestBeat (82, [.ref 144, .int a1, .int a2, a3], [.int x1], sM Ln I1 L1 c s) _
      exact dd_Rn.retK 0 (pc := 82) (ls := [.ref 144, .int a1, .int a2, a3]) (st := [.int x1]) (M := sM Ln I1 L1 c s) (o := (none, .int x1, sM Ln I1 L1 c s)) rfl rfl h (by omega)
    · have h := h.2 hc
      exact dd_Rn.retK 2 (pc := 82) (ls := [.ref 144, .int a1, .int a2, a3]) (st := [.int (-1)]) (M := sM Ln I L c s) (o := (none, .int (-1), sM Ln I L c s)) rfl rfl h (by omega)
  · have h := h.2 hc
    refine dd_Rn.cI 2 (pc := 20) (ls := [.ref 144, .int a1, .int a2, a3]) (st := [.int a2, .ref 144]) (x := m_X5_fits) (as := [.ref 144, .int a2]) (rest := []) rfl rfl rfl rfl h ?_
    intro x2 I2 L2 h
    show dd_Rn (e + 16) m_X5_bestBeat (23, [.ref 144, .int a1, .int a2, a3], [.int x2], sM Ln I2 L2 c s) _
    refine dd_Rn.ite 0 (c := x2 = 0) (A := (63, [.ref 144, .int a1, .int a2, a3], [], sM Ln I2 L2 c s)) (B := (26, [.ref 144, .int a1, .int a2, a3], [], sM Ln I2 L2 c s)) rfl (fun hc => ?_) (fun hc => ?_) (by omega)
    · have h := h.1 hc
      exact dd_Rn.go 2 (cf' := (12, [.ref 144, .int a1, .int (a2 + 1), a3], [], sM Ln I2 L2 c s)) rfl h (by omega)
    · have h := h.2 hc
      exact dd_Rn.go 3 (cf' := (31, [.ref 144, .int (a1 + 1), .int a2, .int 0], [], sM Ln I2 L2 c s)) rfl h (by omega)

theorem w_X5_bestBeat_31 {Ln d c s : Nat} {I : Nat → Nat → Int32} {L : Nat → Nat → Int64} {Q : dd_O → Prop} {a1 a2 a3 : Int32} (hd : 28 ≤ d) (h : (((31 : Int32) ≤ a3 → dd_Rn d m_X5_bestBeat (12, [.ref 144, .int a1, .int (a2 + 1), .int a3], [], sM Ln I L c s) Q) ∧ (¬ ((31 : Int32) ≤ a3) → ((0 ≤ a3 ∧ tn a3 < 31) ∧ ((0 ≤ (a3 * 15) + (I 146 (tn a3)) ∧ tn ((a3 * 15) + (I 146 (tn a3))) < 465) ∧ ((0 ≤ (a3 * 15) + (I 146 (tn a3)) ∧ tn ((a3 * 15) + (I 146 (tn a3))) < 465) ∧ dd_Rn d m_X5_bestBeat (31, [.ref 144, .int a1, .int a2, .int (a3 + 1)], [], sM Ln (dd_u I 147 (upd (I 147) (tn ((a3 * 15) + (I 146 (tn a3)))) ((I 147 (tn ((a3 * 15) + (I 146 (tn a3))))) + 1))) L c s) Q)))))) : dd_Rn d m_X5_bestBeat (31, [.ref 144, .int a1, .int a2, .int a3], [], sM Ln I L c s) Q := by
  obtain ⟨e, rfl⟩ : ∃ e, d = e + 16 := ⟨d - 16, by omega⟩
  refine dd_Rn.ite 2 (c := (31 : Int32) ≤ a3) (A := (63, [.ref 144, .int a1, .int a2, .int a3], [], sM Ln I L c s)) (B := (37, [.ref 144, .int a1, .int a2, .int a3], [], sM Ln I L c s)) rfl (fun hc => ?_) (fun hc => ?_) (by omega)
  · have h := h.1 hc
    exact dd_Rn.go 2 (cf' := (12, [.ref 144, .int a1, .int (a2 + 1), .int a3], [], sM Ln I L c s)) rfl h (by omega)
  · have h := h.2 hc
    obtain ⟨hc, h⟩ := h
    refine dd_Rn.chk 8 (c := 0 ≤ a3 ∧ tn a3 < 31) (A := (51, [.ref 144, .int a1, .int a2, .int a3], [.int (I 146 (tn a3)), .int (a3 * 15), .ref 147], sM Ln I L c s)) rfl hc ?_ (by omega)
    obtain ⟨hc, h⟩ := h
    refine dd_Rn.go 2 (cf' := (53, [.ref 144, .int a1, .int a2, .int a3], [.int ((a3 * 15) + (I 146 (tn a3))), .ref 147, .int ((a3 * 15) + (I 146 (tn a3))), .ref 147], sM Ln I L c s)) rfl ?_ (by omega)
    refine dd_Rn.ci (fun j0 => (53, [.ref 144, .int a1, .int a2, .int a3], [.int j0, .ref 147, .int ((a3 * 15) + (I 146 (tn a3))), .ref 147], sM Ln I L c s)) (fun j0 => (54, [.ref 144, .int a1, .int a2, .int a3], [.int (I 147 (tn j0)), .int ((a3 * 15) + (I 146 (tn a3))), .ref 147], sM Ln I L c s)) (fun j0 => 0 ≤ j0 ∧ tn j0 < 465) ((a3 * 15) + (I 146 (tn a3))) (fun j0 hc h => dd_Rn.chk 0 (c := 0 ≤ j0 ∧ tn j0 < 465) (A := (54, [.ref 144, .int a1, .int a2, .int a3], [.int (I 147 (tn j0)), .int ((a3 * 15) + (I 146 (tn a3))), .ref 147], sM Ln I L c s)) rfl hc h (by omega)) hc ?_
    refine dd_Rn.se (cf := (54, [.ref 144, .int a1, .int a2, .int a3], [.int (I 147 (tn ((a3 * 15) + (I 146 (tn a3))))), .int ((a3 * 15) + (I 146 (tn a3))), .ref 147], sM Ln I L c s)) ?_
    obtain ⟨hc, h⟩ := h
    refine dd_Rn.go 2 (cf' := (56, [.ref 144, .int a1, .int a2, .int a3], [.int ((I 147 (tn ((a3 * 15) + (I 146 (tn a3))))) + 1), .int ((a3 * 15) + (I 146 (tn a3))), .ref 147], sM Ln I L c s)) rfl ?_ (by omega)
    refine dd_Rn.ci (fun j0 => (56, [.ref 144, .int a1, .int a2, .int a3], [.int ((I 147 (tn ((a3 * 15) + (I 146 (tn a3))))) + 1), .int j0, .ref 147], sM Ln I L c s)) (fun j0 => (57, [.ref 144, .int a1, .int a2, .int a3], [], sM Ln (dd_u I 147 (upd (I 147) (tn j0) ((I 147 (tn ((a3 * 15) + (I 146 (tn a3))))) + 1))) L c s)) (fun j0 => 0 ≤ j0 ∧ tn j0 < 465) ((a3 * 15) + (I 146 (tn a3))) (fun j0 hc h => dd_Rn.chk 0 (c := 0 ≤ j0 ∧ tn j0 < 465) (A := (57, [.ref 144, .int a1, .int a2, .int a3], [], sM Ln (dd_u I 147 (upd (I 147) (tn j0) ((I 147 (tn ((a3 * 15) + (I 146 (tn a3))))) + 1))) L c s)) rfl hc h (by omega)) hc ?_
    refine dd_Rn.se (cf := (57, [.ref 144, .int a1, .int a2, .int a3], [], sM Ln (dd_u I 147 (upd (I 147) (tn ((a3 * 15) + (I 146 (tn a3)))) ((I 147 (tn ((a3 * 15) + (I 146 (tn a3))))) + 1))) L c s)) ?_
    exact dd_Rn.go 2 (cf' := (31, [.ref 144, .int a1, .int a2, .int (a3 + 1)], [], sM Ln (dd_u I 147 (upd (I 147) (tn ((a3 * 15) + (I 146 (tn a3)))) ((I 147 (tn ((a3 * 15) + (I 146 (tn a3))))) + 1))) L c s)) rfl h (by omega)

theorem w_X5_leastGreatest_0 {Ln d c s : Nat} {I : Nat → Nat → Int32} {L : Nat → Nat → Int64} {Q : dd_O → Prop} (hd : 28 ≤ d) (h : dd_Rn d m_X5_leastGreatest (7, [.ref 144, .int (-1), .int 65, .int 0, .null, .null], [], sM Ln I L c s) Q) : dd_Ev d m_X5_leastGreatest [.ref 144] (sM Ln I L c s) Q := by
  obtain ⟨e, rfl⟩ : ∃ e, d = e + 16 := ⟨d - 16, by omega⟩
  show dd_Rn (e + 16) m_X5_leastGreatest (0, [.ref 144, .null, .null, .null, .null, .null], [], sM Ln I L c s) Q
  exact dd_Rn.go 6 (cf' := (7, [.ref 144, .int (-1), .int 65, .int 0, .null, .null], [], sM Ln I L c s)) rfl h (by omega)

theorem w_X5_leastGreatest_7 {Ln d c s : Nat} {I : Nat → Nat → Int32} {L : Nat → Nat → Int64} {Q : dd_O → Prop} {a1 a2 a3 : Int32} {a4 a5 : Value} (hd : 28 ≤ d) (h : (((31 : Int32) ≤ a3 → Q (none, .int a1, sM Ln I L c s)) ∧ (¬ ((31 : Int32) ≤ a3) → dd_Rn d m_X5_leastGreatest (19, [.ref 144, .int a1, .int a2, .int a3, .int 0, .int 0], [], sM Ln I L c s) Q))) : dd_Rn d m_X5_leastGreatest (7, [.ref 144, .int a1, .int a2, .int a3, a4, a5], [], sM Ln I L c s) Q := by
  obtain ⟨e, rfl⟩ : ∃ e, d = e + 16 := ⟨d - 16, by omega⟩
  refine dd_Rn.ite 2 (c := (31 : Int32) ≤ a3) (A := (68, [.ref 144, .int a1, .int a2, .int a3, a4, a5], [], sM Ln I L c s)) (B := (13, [.ref 144, .int a1, .int a2, .int a3, a4, a5], [], sM Ln I L c s)) rfl (fun hc => ?_) (fun hc => ?_) (by omega)
  · have h := h.1 hc
    exact dd_Rn.retK 1 (pc := 69) (ls := [.ref 144, .int a1, .int a2, .int a3, a4, a5]) (st := [.int a1]) (M := sM Ln I L c s) (o := (none, .int a1, sM Ln I L c s)) rfl rfl h (by omega)
  · have h := h.2 hc
    exact dd_Rn.go 4 (cf' := (19, [.ref 144, .int a1, .int a2, .int a3, .int 0, .int 0], [], sM Ln I L c s)) rfl h (by omega)

theorem w_X5_leastGreatest_19 {Ln d c s : Nat} {I : Nat → Nat → Int32} {L : Nat → Nat → Int64} {Q : dd_O → Prop} {a1 a2 a3 a4 a5 : Int32} (hd : 28 ≤ d) (h : (((15 : Int32) ≤ a5 → ((a2 ≤ a4 → dd_Rn d m_X5_leastGreatest (7, [.ref 144, .int a1, .int a2, .int (a3 + 1), .int a4, .int a5], [], sM Ln I L c s) Q) ∧ (¬ (a2 ≤ a4) → dd_Rn d m_X5_leastGreatest (7, [.ref 144, .int a3, .int a4, .int (a3 + 1), .int a4, .int a5], [], sM Ln I L c s) Q))) ∧ (¬ ((15 : Int32) ≤ a5) → ((0 ≤ (a3 * 15) + a5 ∧ tn ((a3 * 15) + a5) < 465) ∧ dd_Rn d m_X5_leastGreatest (19, [.ref 144, .int a1, .int a2, .int a3, .int (if a4 < I 147 (tn ((a3 * 15) + a5)) then I 147 (tn ((a3 * 15) + a5)) else a4), .int (a5 + 1)], [], sM Ln I L c s) Q)))) : dd_Rn d m_X5_leastGreatest (19, [.ref 144, .int a1, .int a2, .int a3, .int a4, .int a5], [], sM Ln I L c s) Q := by
  obtain ⟨e, rfl⟩ : ∃ e, d = e + 16 := ⟨d - 16, by omega⟩
  refine dd_Rn.ite 2 (c := (15 : Int32) ≤ a5) (A := (51, [.ref 144, .int a1, .int a2, .int a3, .int a4, .int a5], [], sM Ln I L c s)) (B := (26, [.ref 144, .int a1, .int a2, .int a3, .int a4, .int a5], [], sM Ln I L c s)) rfl (fun hc => ?_) (fun hc => ?_) (by omega)
  · have h := h.1 hc
    refine dd_Rn.ite 2 (c := a2 ≤ a4) (A := (62, [.ref 144, .int a1, .int a2, .int a3, .int a4, .int a5], [], sM Ln I L c s)) (B := (57, [.ref 144, .int a1, .int a2, .int a3, .int a4, .int a5], [], sM Ln I L c s)) rfl (fun hc => ?_) (fun hc => ?_) (by omega)
    · have h := h.1 hc
      exact dd_Rn.go 2 (cf' := (7, [.ref 144, .int a1, .int a2, .int (a3 + 1), .int a4, .int a5], [], sM Ln I L c s)) rfl h (by omega)
    · have h := h.2 hc
      exact dd_Rn.go 6 (cf' := (7, [.ref 144, .int a3, .int a4, .int (a3 + 1), .int a4, .int a5], [], sM Ln I L c s)) rfl h (by omega)
  · have h := h.2 hc
    obtain ⟨hc, h⟩ := h
    refine dd_Rn.go 8 (cf' := (39, [.ref 144, .int a1, .int a2, .int a3, .int a4, .int a5], [.int ((a3 * 15) + a5), .ref 147, .int a4], sM Ln I L c s)) rfl ?_ (by omega)
    refine dd_Rn.ci (fun j0 => (39, [.ref 144, .int a1, .int a2, .int a3, .int a4, .int a5], [.int j0, .ref 147, .int a4], sM Ln I L c s)) (fun j0 => (40, [.ref 144, .int a1, .int a2, .int a3, .int a4, .int a5], [.int (I 147 (tn j0)), .int a4], sM Ln I L c s)) (fun j0 => 0 ≤ j0 ∧ tn j0 < 465) ((a3 * 15) + a5) (fun j0 hc h => dd_Rn.chk 0 (c := 0 ≤ j0 ∧ tn j0 < 465) (A := (40, [.ref 144, .int a1, .int a2, .int a3, .int a4, .int a5], [.int (I 147 (tn j0)), .int a4], sM Ln I L c s)) rfl hc h (by omega)) hc ?_
    refine dd_Rn.se (cf := (40, [.ref 144, .int a1, .int a2, .int a3, .int a4, .int a5], [.int (I 147 (tn ((a3 * 15) + a5))), .int a4], sM Ln I L c s)) ?_
    exact dd_Rn.go 4 (cf' := (19, [.ref 144, .int a1, .int a2, .int a3, .int (if a4 < I 147 (tn ((a3 * 15) + a5)) then I 147 (tn ((a3 * 15) + a5)) else a4), .int (a5 + 1)], [], sM Ln I L c s)) rfl h (by omega)

theorem w_X7_beside_0 {Ln d c s : Nat} {I : Nat → Nat → Int32} {L : Nat → Nat → Int64} {Q : dd_O → Prop} {a0 : Int64} (hd : 28 ≤ d) (h : Q (none, .long (((((a0.toUInt64 >>> ((8 : Int32).toInt64.toUInt64 &&& Int64.toUInt64 63)).toInt64) ||| (a0 <<< ((8 : Int32).toInt64 &&& 63))) ||| (((a0 &&& (Int64.ofNat 18374403900871474942)).toUInt64 >>> ((1 : Int32).toInt64.toUInt64 &&& Int64.toUInt64 63)).toInt64)) ||| ((a0 &&& (Int64.ofNat 9187201950435737471)) <<< ((1 : Int32).toInt64 &&& 63))), sM Ln I L c s)) : dd_Ev d m_X7_beside [.long a0] (sM Ln I L c s) Q := by
  obtain ⟨e, rfl⟩ : ∃ e, d = e + 16 := ⟨d - 16, by omega⟩
  show dd_Rn (e + 16) m_X7_beside (0, [.long a0, .null, .null, .null, .null, .null], [], sM Ln I L c s) Q
  exact dd_Rn.retK 23 (pc := 31) (ls := [.long a0, .null, .long (((a0 &&& (Int64.ofNat 18374403900871474942)).toUInt64 >>> ((1 : Int32).toInt64.toUInt64 &&& Int64.toUInt64 63)).toInt64), .null, .long ((a0 &&& (Int64.ofNat 9187201950435737471)) <<< ((1 : Int32).toInt64 &&& 63)), .null]) (st := [.long (((((a0.toUInt64 >>> ((8 : Int32).toInt64.toUInt64 &&& Int64.toUInt64 63)).toInt64) ||| (a0 <<< ((8 : Int32).toInt64 &&& 63))) ||| (((a0 &&& (Int64.ofNat 18374403900871474942)).toUInt64 >>> ((1 : Int32).toInt64.toUInt64 &&& Int64.toUInt64 63)).toInt64)) ||| ((a0 &&& (Int64.ofNat 9187201950435737471)) <<< ((1 : Int32).toInt64 &&& 63)))]) (M := sM Ln I L c s) (o := (none, .long (((((a0.toUInt64 >>> ((8 : Int32).toInt64.toUInt64 &&& Int64.toUInt64 63)).toInt64) ||| (a0 <<< ((8 : Int32).toInt64 &&& 63))) ||| (((a0 &&& (Int64.ofNat 18374403900871474942)).toUInt64 >>> ((1 : Int32).toInt64.toUInt64 &&& Int64.toUInt64 63)).toInt64)) ||| ((a0 &&& (Int64.ofNat 9187201950435737471)) <<< ((1 : Int32).toInt64 &&& 63))), sM Ln I L c s)) rfl rfl h (by omega)

theorem w_X7_reached_0 {Ln d c s : Nat} {I : Nat → Nat → Int32} {L : Nat → Nat → Int64} {Q : dd_O → Prop} {a0 : Int32} {a1 : Int64} (hd : 28 ≤ d) (h : dd_Rn d m_X7_reached (9, [.int a0, .long a1, .null, .long (((Int64.ofNat 1) <<< (a0.toInt64 &&& 63)) &&& a1), .null, .int 0], [], sM Ln I L c s) Q) : dd_Ev d m_X7_reached [.int a0, .long a1] (sM Ln I L c s) Q := by
  obtain ⟨e, rfl⟩ : ∃ e, d = e + 16 := ⟨d - 16, by omega⟩
  show dd_Rn (e + 16) m_X7_reached (0, [.int a0, .long a1, .null, .null, .null, .null], [], sM Ln I L c s) Q
  exact dd_Rn.go 8 (cf' := (9, [.int a0, .long a1, .null, .long (((Int64.ofNat 1) <<< (a0.toInt64 &&& 63)) &&& a1), .null, .int 0], [], sM Ln I L c s)) rfl h (by omega)

theorem w_X7_reached_9 {Ln d c s : Nat} {I : Nat → Nat → Int32} {L : Nat → Nat → Int64} {Q : dd_O → Prop} {a0 a5 : Int32} {a1 a3 : Int64} (hd : 28 ≤ d) (h : (((64 : Int32) ≤ a5 → Q (none, .long a3, sM Ln I L c s)) ∧ (¬ ((64 : Int32) ≤ a5) → dd_Ev (d - 1) m_X7_beside [.long a3] (sM Ln I L c s) (dd_RL Ln c s (fun x1 I1 L1 => dd_Rn d m_X7_reached (9, [.int a0, .long a1, .null, .long (a3 ||| (x1 &&& a1)), .null, .int (a5 + 1)], [], sM Ln I1 L1 c s) Q))))) : dd_Rn d m_X7_reached (9, [.int a0, .long a1, .null, .long a3, .null, .int a5], [], sM Ln I L c s) Q := by
  obtain ⟨e, rfl⟩ : ∃ e, d = e + 16 := ⟨d - 16, by omega⟩
  refine dd_Rn.ite 2 (c := (64 : Int32) ≤ a5) (A := (31, [.int a0, .long a1, .null, .long a3, .null, .int a5], [], sM Ln I L c s)) (B := (16, [.int a0, .long a1, .null, .long a3, .null, .int a5], [], sM Ln I L c s)) rfl (fun hc => ?_) (fun hc => ?_) (by omega)
  · have h := h.1 hc
    exact dd_Rn.retK 1 (pc := 32) (ls := [.int a0, .long a1, .null, .long a3, .null, .int a5]) (st := [.long a3]) (M := sM Ln I L c s) (o := (none, .long a3, sM Ln I L c s)) rfl rfl h (by omega)
  · have h := h.2 hc
    refine dd_Rn.cL 2 (pc := 18) (ls := [.int a0, .long a1, .null, .long a3, .null, .int a5]) (st := [.long a3, .long a3]) (x := m_X7_beside) (as := [.long a3]) (rest := [.long a3]) rfl rfl rfl rfl h ?_
    intro x1 I1 L1 h
    show dd_Rn (e + 16) m_X7_reached (21, [.int a0, .long a1, .null, .long a3, .null, .int a5], [.long x1, .long a3], sM Ln I1 L1 c s) _
    exact dd_Rn.go 6 (cf' := (9, [.int a0, .long a1, .null, .long (a3 ||| (x1 &&& a1)), .null, .int (a5 + 1)], [], sM Ln I1 L1 c s)) rfl h (by omega)

theorem w_X7_stepsBetween_0 {Ln d c s : Nat} {I : Nat → Nat → Int32} {L : Nat → Nat → Int64} {Q : dd_O → Prop} {a1 a2 : Int32} (hd : 28 ≤ d) (h : dd_Rn d m_X7_stepsBetween (22, [.ref 139, .int a1, .int a2, .long ((L 1 0) ^^^ (Int64.ofNat 18446744073709551615)), .null, .long (((Int64.ofNat 1) <<< (a1.toInt64 &&& 63)) &&& ((L 1 0) ^^^ (Int64.ofNat 18446744073709551615))), .null, .int 0], [], sM Ln I L c s) Q) : dd_Ev d m_X7_stepsBetween [.ref 139, .int a1, .int a2] (sM Ln I L c s) Q := by
  obtain ⟨e, rfl⟩ : ∃ e, d = e + 16 := ⟨d - 16, by omega⟩
  show dd_Rn (e + 16) m_X7_stepsBetween (0, [.ref 139, .int a1, .int a2, .null, .null, .null, .null, .null], [], sM Ln I L c s) Q
  exact dd_Rn.go 14 (cf' := (22, [.ref 139, .int a1, .int a2, .long ((L 1 0) ^^^ (Int64.ofNat 18446744073709551615)), .null, .long (((Int64.ofNat 1) <<< (a1.toInt64 &&& 63)) &&& ((L 1 0) ^^^ (Int64.ofNat 18446744073709551615))), .null, .int 0], [], sM Ln I L c s)) rfl h (by omega)

theorem w_X7_stepsBetween_22 {Ln d c s : Nat} {I : Nat → Nat → Int32} {L : Nat → Nat → Int64} {Q : dd_O → Prop} {a1 a2 a7 : Int32} {a3 a5 : Int64} (hd : 28 ≤ d) (h : (((64 : Int32) ≤ a7 → Q (none, .int (-1), sM Ln I L c s)) ∧ (¬ ((64 : Int32) ≤ a7) → ((lg_cmp (((a5.toUInt64 >>> (a2.toInt64.toUInt64 &&& Int64.toUInt64 63)).toInt64) &&& (Int64.ofNat 1)) (Int64.ofNat 0) = 0 → dd_Ev (d - 1) m_X7_beside [.long a5] (sM Ln I L c s) (dd_RL Ln c s (fun x1 I1 L1 => dd_Rn d m_X7_stepsBetween (22, [.ref 139, .int a1, .int a2, .long a3, .null, .long (a5 ||| (x1 &&& a3)), .null, .int (a7 + 1)], [], sM Ln I1 L1 c s) Q))) ∧ (¬ (lg_cmp (((a5.toUInt64 >>> (a2.toInt64.toUInt64 &&& Int64.toUInt64 63)).toInt64) &&& (Int64.ofNat 1)) (Int64.ofNat 0) = 0) → Q (none, .int a7, sM Ln I L c s)))))) : dd_Rn d m_X7_stepsBetween (22, [.ref 139, .int a1, .int a2, .long a3, .null, .long a5, .null, .int a7], [], sM Ln I L c s) Q := by
  obtain ⟨e, rfl⟩ : ∃ e, d = e + 16 := ⟨d - 16, by omega⟩
  refine dd_Rn.ite 2 (c := (64 : Int32) ≤ a7) (A := (61, [.ref 139, .int a1, .int a2, .long a3, .null, .long a5, .null, .int a7], [], sM Ln I L c s)) (B := (29, [.ref 139, .int a1, .int a2, .long a3, .null, .long a5, .null, .int a7], [], sM Ln I L c s)) rfl (fun hc => ?_) (fun hc => ?_) (by omega)
  · have h := h.1 hc
    exact dd_Rn.retK 1 (pc := 62) (ls := [.ref 139, .int a1, .int a2, .long a3, .null, .long a5, .null, .int a7]) (st := [.int (-1)]) (M := sM Ln I L c s) (o := (none, .int (-1), sM Ln I L c s)) rfl rfl h (by omega)
  · have h := h.2 hc
    refine dd_Rn.ite 7 (c := lg_cmp (((a5.toUInt64 >>> (a2.toInt64.toUInt64 &&& Int64.toUInt64 63)).toInt64) &&& (Int64.ofNat 1)) (Int64.ofNat 0) = 0) (A := (43, [.ref 139, .int a1, .int a2, .long a3, .null, .long a5, .null, .int a7], [], sM Ln I L c s)) (B := (40, [.ref 139, .int a1, .int a2, .long a3, .null, .long a5, .null, .int a7], [], sM Ln I L c s)) rfl (fun hc => ?_) (fun hc => ?_) (by omega)
    · have h := h.1 hc
      refine dd_Rn.cL 2 (pc := 47) (ls := [.ref 139, .int a1, .int a2, .long a3, .null, .long a5, .null, .int a7]) (st := [.long a5, .long a5]) (x := m_X7_beside) (as := [.long a5]) (rest := [.long a5]) rfl rfl rfl rfl h ?_
      intro x1 I1 L1 h
      show dd_Rn (e + 16) m_X7_stepsBetween (50, [.ref 139, .int a1, .int a2, .long a3, .null, .long a5, .null, .int a7], [.long x1, .long a5], sM Ln I1 L1 c s) _
      exact dd_Rn.go 6 (cf' := (22, [.ref 139, .int a1, .int a2, .long a3, .null, .long (a5 ||| (x1 &&& a3)), .null, .int (a7 + 1)], [], sM Ln I1 L1 c s)) rfl h (by omega)
    · have h := h.2 hc
      exact dd_Rn.retK 1 (pc := 42) (ls := [.ref 139, .int a1, .int a2, .long a3, .null, .long a5, .null, .int a7]) (st := [.int a7]) (M := sM Ln I L c s) (o := (none, .int a7, sM Ln I L c s)) rfl rfl h (by omega)

theorem w_X7_addSteps_0 {Ln d c s : Nat} {I : Nat → Nat → Int32} {L : Nat → Nat → Int64} {Q : dd_O → Prop} {a1 : Int32} (hd : 28 ≤ d) (h : dd_Rn d m_X7_addSteps (26, [.ref 139, .int a1, .long ((L 1 0) ^^^ (Int64.ofNat 18446744073709551615)), .null, .long (((Int64.ofNat 1) <<< (a1.toInt64 &&& 63)) &&& ((L 1 0) ^^^ (Int64.ofNat 18446744073709551615))), .null, .long (((Int64.ofNat 1) <<< (a1.toInt64 &&& 63)) &&& ((L 1 0) ^^^ (Int64.ofNat 18446744073709551615))), .null, .int 0, .null], [], sM Ln I L c s) Q) : dd_Ev d m_X7_addSteps [.ref 139, .int a1] (sM Ln I L c s) Q := by
  obtain ⟨e, rfl⟩ : ∃ e, d = e + 16 := ⟨d - 16, by omega⟩
  show dd_Rn (e + 16) m_X7_addSteps (0, [.ref 139, .int a1, .null, .null, .null, .null, .null, .null, .null, .null], [], sM Ln I L c s) Q
  exact dd_Rn.go 16 (cf' := (26, [.ref 139, .int a1, .long ((L 1 0) ^^^ (Int64.ofNat 18446744073709551615)), .null, .long (((Int64.ofNat 1) <<< (a1.toInt64 &&& 63)) &&& ((L 1 0) ^^^ (Int64.ofNat 18446744073709551615))), .null, .long (((Int64.ofNat 1) <<< (a1.toInt64 &&& 63)) &&& ((L 1 0) ^^^ (Int64.ofNat 18446744073709551615))), .null, .int 0, .null], [], sM Ln I L c s)) rfl h (by omega)

theorem w_X7_addSteps_26 {Ln d c s : Nat} {I : Nat → Nat → Int32} {L : Nat → Nat → Int64} {Q : dd_O → Prop} {a1 a8 : Int32} {a2 a4 a6 : Int64} {a9 : Value} (hd : 28 ≤ d) (h : (((64 : Int32) ≤ a8 → Q (none, .null, sM Ln I L c s)) ∧ (¬ ((64 : Int32) ≤ a8) → ((lg_cmp a6 (Int64.ofNat 0) = 0 → Q (none, .null, sM Ln I L c s)) ∧ (¬ (lg_cmp a6 (Int64.ofNat 0) = 0) → dd_Rn d m_X7_addSteps (43, [.ref 139, .int a1, .long a2, .null, .long a4, .null, .long a6, .null, .int a8, .int 0], [], sM Ln I L c s) Q))))) : dd_Rn d m_X7_addSteps (26, [.ref 139, .int a1, .long a2, .null, .long a4, .null, .long a6, .null, .int a8, a9], [], sM Ln I L c s) Q := by
  obtain ⟨e, rfl⟩ : ∃ e, d = e + 16 := ⟨d - 16, by omega⟩
  refine dd_Rn.ite 2 (c := (64 : Int32) ≤ a8) (A := (109, [.ref 139, .int a1, .long a2, .null, .long a4, .null, .long a6, .null, .int a8, a9], [], sM Ln I L c s)) (B := (33, [.ref 139, .int a1, .long a2, .null, .long a4, .null, .long a6, .null, .int a8, a9], [], sM Ln I L c s)) rfl (fun hc => ?_) (fun hc => ?_) (by omega)
  · have h := h.1 hc
    exact dd_Rn.retK 0 (pc := 109) (ls := [.ref 139, .int a1, .long a2, .null, .long a4, .null, .long a6, .null, .int a8, a9]) (st := []) (M := sM Ln I L c s) (o := (none, .null, sM Ln I L c s)) rfl rfl h (by omega)
  · have h := h.2 hc
    refine dd_Rn.ite 3 (c := lg_cmp a6 (Int64.ofNat 0) = 0) (A := (109, [.ref 139, .int a1, .long a2, .null, .long a4, .null, .long a6, .null, .int a8, a9], [], sM Ln I L c s)) (B := (40, [.ref 139, .int a1, .long a2, .null, .long a4, .null, .long a6, .null, .int a8, a9], [], sM Ln I L c s)) rfl (fun hc => ?_) (fun hc => ?_) (by omega)
    · have h := h.1 hc
      exact dd_Rn.retK 0 (pc := 109) (ls := [.ref 139, .int a1, .long a2, .null, .long a4, .null, .long a6, .null, .int a8, a9]) (st := []) (M := sM Ln I L c s) (o := (none, .null, sM Ln I L c s)) rfl rfl h (by omega)
    · have h := h.2 hc
      exact dd_Rn.go 2 (cf' := (43, [.ref 139, .int a1, .long a2, .null, .long a4, .null, .long a6, .null, .int a8, .int 0], [], sM Ln I L c s)) rfl h (by omega)

theorem w_X7_addSteps_43 {Ln d c s : Nat} {I : Nat → Nat → Int32} {L : Nat → Nat → Int64} {Q : dd_O → Prop} {a1 a8 a9 : Int32} {a2 a4 a6 : Int64} (hd : 28 ≤ d) (h : (((64 : Int32) ≤ a9 → dd_Ev (d - 1) m_X7_beside [.long a6] (sM Ln I L c s) (dd_RL Ln c s (fun x1 I1 L1 => dd_Rn d m_X7_addSteps (26, [.ref 139, .int a1, .long a2, .null, .long (a4 ||| ((x1 &&& a2) &&& (a4 ^^^ (Int64.ofNat 18446744073709551615)))), .null, .long ((x1 &&& a2) &&& (a4 ^^^ (Int64.ofNat 18446744073709551615))), .null, .int (a8 + 1), .int a9], [], sM Ln I1 L1 c s) Q))) ∧ (¬ ((64 : Int32) ≤ a9) → ((lg_cmp (((a6.toUInt64 >>> (a9.toInt64.toUInt64 &&& Int64.toUInt64 63)).toInt64) &&& (Int64.ofNat 1)) (Int64.ofNat 0) = 0 → dd_Rn d m_X7_addSteps (43, [.ref 139, .int a1, .long a2, .null, .long a4, .null, .long a6, .null, .int a8, .int (a9 + 1)], [], sM Ln I L c s) Q) ∧ (¬ (lg_cmp (((a6.toUInt64 >>> (a9.toInt64.toUInt64 &&& Int64.toUInt64 63)).toInt64) &&& (Int64.ofNat 1)) (Int64.ofNat 0) = 0) → ((0 ≤ a9 ∧ tn a9 < 64) ∧ ((0 ≤ a9 ∧ tn a9 < 64) ∧ dd_Rn d m_X7_addSteps (43, [.ref 139, .int a1, .long a2, .null, .long a4, .null, .long a6, .null, .int a8, .int (a9 + 1)], [], sM Ln (dd_u I 140 (upd (I 140) (tn a9) ((I 140 (tn a9)) + a8))) L c s) Q))))))) : dd_Rn d m_X7_addSteps (43, [.ref 139, .int a1, .long a2, .null, .long a4, .null, .long a6, .null, .int a8, .int a9], [], sM Ln I L c s) Q := by
  obtain ⟨e, rfl⟩ : ∃ e, d = e + 16 := ⟨d - 16, by omega⟩
  refine dd_Rn.ite 2 (c := (64 : Int32) ≤ a9) (A := (80, [.ref 139, .int a1, .long a2, .null, .long a4, .null, .long a6, .null, .int a8, .int a9], [], sM Ln I L c s)) (B := (50, [.ref 139, .int a1, .long a2, .null, .long a4, .null, .long a6, .null, .int a8, .int a9], [], sM Ln I L c s)) rfl (fun hc => ?_) (fun hc => ?_) (by omega)
  · have h := h.1 hc
    refine dd_Rn.cL 1 (pc := 82) (ls := [.ref 139, .int a1, .long a2, .null, .long a4, .null, .long a6, .null, .int a8, .int a9]) (st := [.long a6]) (x := m_X7_beside) (as := [.long a6]) (rest := []) rfl rfl rfl rfl h ?_
    intro x1 I1 L1 h
    show dd_Rn (e + 16) m_X7_addSteps (85, [.ref 139, .int a1, .long a2, .null, .long a4, .null, .long a6, .null, .int a8, .int a9], [.long x1], sM Ln I1 L1 c s) _
    exact dd_Rn.go 13 (cf' := (26, [.ref 139, .int a1, .long a2, .null, .long (a4 ||| ((x1 &&& a2) &&& (a4 ^^^ (Int64.ofNat 18446744073709551615)))), .null, .long ((x1 &&& a2) &&& (a4 ^^^ (Int64.ofNat 18446744073709551615))), .null, .int (a8 + 1), .int a9], [], sM Ln I1 L1 c s)) rfl h (by omega)
  · have h := h.2 hc
    refine dd_Rn.ite 7 (c := lg_cmp (((a6.toUInt64 >>> (a9.toInt64.toUInt64 &&& Int64.toUInt64 63)).toInt64) &&& (Int64.ofNat 1)) (Int64.ofNat 0) = 0) (A := (74, [.ref 139, .int a1, .long a2, .null, .long a4, .null, .long a6, .null, .int a8, .int a9], [], sM Ln I L c s)) (B := (62, [.ref 139, .int a1, .long a2, .null, .long a4, .null, .long a6, .null, .int a8, .int a9], [], sM Ln I L c s)) rfl (fun hc => ?_) (fun hc => ?_) (by omega)
    · have h := h.1 hc
      exact dd_Rn.go 2 (cf' := (43, [.ref 139, .int a1, .long a2, .null, .long a4, .null, .long a6, .null, .int a8, .int (a9 + 1)], [], sM Ln I L c s)) rfl h (by omega)
    · have h := h.2 hc
      obtain ⟨hc, h⟩ := h
      refine dd_Rn.chk 4 (c := 0 ≤ a9 ∧ tn a9 < 64) (A := (70, [.ref 139, .int a1, .long a2, .null, .long a4, .null, .long a6, .null, .int a8, .int a9], [.int (I 140 (tn a9)), .int a9, .ref 140], sM Ln I L c s)) rfl hc ?_ (by omega)
      obtain ⟨hc, h⟩ := h
      refine dd_Rn.chk 2 (c := 0 ≤ a9 ∧ tn a9 < 64) (A := (74, [.ref 139, .int a1, .long a2, .null, .long a4, .null, .long a6, .null, .int a8, .int a9], [], sM Ln (dd_u I 140 (upd (I 140) (tn a9) ((I 140 (tn a9)) + a8))) L c s)) rfl hc ?_ (by omega)
      exact dd_Rn.go 2 (cf' := (43, [.ref 139, .int a1, .long a2, .null, .long a4, .null, .long a6, .null, .int a8, .int (a9 + 1)], [], sM Ln (dd_u I 140 (upd (I 140) (tn a9) ((I 140 (tn a9)) + a8))) L c s)) rfl h (by omega)

theorem w_X7_leastTogether_0 {Ln d c s : Nat} {I : Nat → Nat → Int32} {L : Nat → Nat → Int64} {Q : dd_O → Prop} (hd : 28 ≤ d) (h : dd_Ev (d - 1) m_X8_lostBoys [.ref 1] (sM Ln I L c s) (dd_RI Ln c s (fun x1 I1 L1 => ((x1 = 0 → dd_Ev (d - 1) m_J7_fill_53178 [.ref 140, .int 0] (sM Ln I1 L1 c s) (dd_RV Ln c s (fun I2 L2 => dd_Rn d m_X7_leastTogether (36, [.ref 139, .long (Int64.ofNat 0), .null, .int 0, .null, .null], [], sM Ln I2 L2 c s) Q))) ∧ (¬ (x1 = 0) → dd_Ev (d - 1) m_J7_fill_53178 [.ref 140, .int 0] (sM Ln I1 L1 c s) (dd_RV Ln c s (fun I3 L3 => dd_Rn d m_X7_leastTogether (36, [.ref 139, .long ((L1 1 0) ^^^ (Int64.ofNat 18446744073709551615)), .null, .int 0, .null, .null], [], sM Ln I3 L3 c s) Q))))))) : dd_Ev d m_X7_leastTogether [.ref 139] (sM Ln I L c s) Q := by
  obtain ⟨e, rfl⟩ : ∃ e, d = e + 16 := ⟨d - 16, by omega⟩
  show dd_Rn (e + 16) m_X7_leastTogether (0, [.ref 139, .null, .null, .null, .null, .null], [], sM Ln I L c s) Q
  refine dd_Rn.cI 2 (pc := 4) (ls := [.ref 139, .null, .null, .null, .null, .null]) (st := [.ref 1]) (x := m_X8_lostBoys) (as := [.ref 1]) (rest := []) rfl rfl rfl rfl h ?_
  intro x1 I1 L1 h
  show dd_Rn (e + 16) m_X7_leastTogether (7, [.ref 139, .null, .null, .null, .null, .null], [.int x1], sM Ln I1 L1 c s) _
  refine dd_Rn.ite 0 (c := x1 = 0) (A := (10, [.ref 139, .null, .null, .null, .null, .null], [], sM Ln I1 L1 c s)) (B := (14, [.ref 139, .null, .null, .null, .null, .null], [], sM Ln I1 L1 c s)) rfl (fun hc => ?_) (fun hc => ?_) (by omega)
  · have h := h.1 hc
    refine dd_Rn.cV 6 (pc := 31) (ls := [.ref 139, .long (Int64.ofNat 0), .null, .null, .null, .null]) (st := [.int 0, .ref 140]) (x := m_J7_fill_53178) (as := [.ref 140, .int 0]) (rest := []) rfl rfl rfl rfl h ?_
    intro I2 L2 h
    show dd_Rn (e + 16) m_X7_leastTogether (34, [.ref 139, .long (Int64.ofNat 0), .null, .null, .null, .null], [], sM Ln I2 L2 c s) _
    exact dd_Rn.go 2 (cf' := (36, [.ref 139, .long (Int64.ofNat 0), .null, .int 0, .null, .null], [], sM Ln I2 L2 c s)) rfl h (by omega)
  · have h := h.2 hc
    refine dd_Rn.cV 9 (pc := 31) (ls := [.ref 139, .long ((L1 1 0) ^^^ (Int64.ofNat 18446744073709551615)), .null, .null, .null, .null]) (st := [.int 0, .ref 140]) (x := m_J7_fill_53178) (as := [.ref 140, .int 0]) (rest := []) rfl rfl rfl rfl h ?_
    intro I3 L3 h
    show dd_Rn (e + 16) m_X7_leastTogether (34, [.ref 139, .long ((L1 1 0) ^^^ (Int64.ofNat 18446744073709551615)), .null, .null, .null, .null], [], sM Ln I3 L3 c s) _
    exact dd_Rn.go 2 (cf' := (36, [.ref 139, .long ((L1 1 0) ^^^ (Int64.ofNat 18446744073709551615)), .null, .int 0, .null, .null], [], sM Ln I3 L3 c s)) rfl h (by omega)

theorem w_X7_leastTogether_36 {Ln d c s : Nat} {I : Nat → Nat → Int32} {L : Nat → Nat → Int64} {Q : dd_O → Prop} {a3 : Int32} {a1 : Int64} (hd : 28 ≤ d) (h : ((I 1 10 ≤ a3 → dd_Rn d m_X7_leastTogether (108, [.ref 139, .long a1, .null, .int (-1), .int 0, .null], [], sM Ln I L c s) Q) ∧ (¬ (I 1 10 ≤ a3) → dd_Ev (d - 1) m_X8_isIn [.ref 1, .int a3] (sM Ln I L c s) (dd_RI Ln c s (fun x1 I1 L1 => ((x1 = 0 → ((0 ≤ a3 ∧ tn a3 < 6) ∧ dd_Ev (d - 1) m_X7_addSteps [.ref 139, .int (I1 4 (tn a3))] (sM Ln I1 L1 c s) (dd_RV Ln c s (fun I2 L2 => ((0 ≤ a3 ∧ tn a3 < 6) ∧ dd_Ev (d - 1) m_X7_reached [.int (I2 4 (tn a3)), .long ((L2 1 0) ^^^ (Int64.ofNat 18446744073709551615))] (sM Ln I2 L2 c s) (dd_RL Ln c s (fun x3 I3 L3 => dd_Rn d m_X7_leastTogether (36, [.ref 139, .long (a1 &&& x3), .null, .int (a3 + 1), .null, .null], [], sM Ln I3 L3 c s) Q))))))) ∧ (¬ (x1 = 0) → dd_Rn d m_X7_leastTogether (36, [.ref 139, .long a1, .null, .int (a3 + 1), .null, .null], [], sM Ln I1 L1 c s) Q))))))) : dd_Rn d m_X7_leastTogether (36, [.ref 139, .long a1, .null, .int a3, .null, .null], [], sM Ln I L c s) Q := by
  obtain ⟨e, rfl⟩ : ∃ e, d = e + 16 := ⟨d - 16, by omega⟩
  refine dd_Rn.ite 4 (c := I 1 10 ≤ a3) (A := (103, [.ref 139, .long a1, .null, .int a3, .null, .null], [], sM Ln I L c s)) (B := (47, [.ref 139, .long a1, .null, .int a3, .null, .null], [], sM Ln I L c s)) rfl (fun hc => ?_) (fun hc => ?_) (by omega)
  · have h := h.1 hc
    exact dd_Rn.go 4 (cf' := (108, [.ref 139, .long a1, .null, .int (-1), .int 0, .null], [], sM Ln I L c s)) rfl h (by omega)
  · have h := h.2 hc
    refine dd_Rn.cI 3 (pc := 52) (ls := [.ref 139, .long a1, .null, .int a3, .null, .null]) (st := [.int a3, .ref 1]) (x := m_X8_isIn) (as := [.ref 1, .int a3]) (rest := []) rfl rfl rfl rfl h ?_
    intro x1 I1 L1 h
    show dd_Rn (e + 16) m_X7_leastTogether (55, [.ref 139, .long a1, .null, .int a3, .null, .null], [.int x1], sM Ln I1 L1 c s) _
    refine dd_Rn.ite 0 (c := x1 = 0) (A := (58, [.ref 139, .long a1, .null, .int a3, .null, .null], [], sM Ln I1 L1 c s)) (B := (97, [.ref 139, .long a1, .null, .int a3, .null, .null], [], sM Ln I1 L1 c s)) rfl (fun hc => ?_) (fun hc => ?_) (by omega)
    · have h := h.1 hc
      obtain ⟨hc, h⟩ := h
      refine dd_Rn.chk 5 (c := 0 ≤ a3 ∧ tn a3 < 6) (A := (68, [.ref 139, .long a1, .null, .int a3, .null, .null], [.int (I1 4 (tn a3)), .ref 139], sM Ln I1 L1 c s)) rfl hc ?_ (by omega)
      refine dd_Rn.cV 0 (pc := 68) (ls := [.ref 139, .long a1, .null, .int a3, .null, .null]) (st := [.int (I1 4 (tn a3)), .ref 139]) (x := m_X7_addSteps) (as := [.ref 139, .int (I1 4 (tn a3))]) (rest := []) rfl rfl rfl rfl h ?_
      intro I2 L2 h
      show dd_Rn (e + 16) m_X7_leastTogether (71, [.ref 139, .long a1, .null, .int a3, .null, .null], [], sM Ln I2 L2 c s) _
      obtain ⟨hc, h⟩ := h
      refine dd_Rn.chk 5 (c := 0 ≤ a3 ∧ tn a3 < 6) (A := (81, [.ref 139, .long a1, .null, .int a3, .null, .null], [.int (I2 4 (tn a3)), .long a1], sM Ln I2 L2 c s)) rfl hc ?_ (by omega)
      refine dd_Rn.cL 5 (pc := 92) (ls := [.ref 139, .long a1, .null, .int a3, .null, .null]) (st := [.long ((L2 1 0) ^^^ (Int64.ofNat 18446744073709551615)), .int (I2 4 (tn a3)), .long a1]) (x := m_X7_reached) (as := [.int (I2 4 (tn a3)), .long ((L2 1 0) ^^^ (Int64.ofNat 18446744073709551615))]) (rest := [.long a1]) rfl rfl rfl rfl h ?_
      intro x3 I3 L3 h
      show dd_Rn (e + 16) m_X7_leastTogether (95, [.ref 139, .long a1, .null, .int a3, .null, .null], [.long x3, .long a1], sM Ln I3 L3 c s) _
      exact dd_Rn.go 4 (cf' := (36, [.ref 139, .long (a1 &&& x3), .null, .int (a3 + 1), .null, .null], [], sM Ln I3 L3 c s)) rfl h (by omega)
    · have h := h.2 hc
      exact dd_Rn.go 2 (cf' := (36, [.ref 139, .long a1, .null, .int (a3 + 1), .null, .null], [], sM Ln I1 L1 c s)) rfl h (by omega)

theorem w_X7_leastTogether_108 {Ln d c s : Nat} {I : Nat → Nat → Int32} {L : Nat → Nat → Int64} {Q : dd_O → Prop} {a3 a4 : Int32} {a1 : Int64} {a5 : Value} (hd : 28 ≤ d) (h : (((64 : Int32) ≤ a4 → Q (none, .int a3, sM Ln I L c s)) ∧ (¬ ((64 : Int32) ≤ a4) → ((a3 = (-1) → ((lg_cmp (((a1.toUInt64 >>> (a4.toInt64.toUInt64 &&& Int64.toUInt64 63)).toInt64) &&& (Int64.ofNat 1)) (Int64.ofNat 0) = 0 → dd_Rn d m_X7_leastTogether (108, [.ref 139, .long a1, .null, .int a3, .int (a4 + 1), .int 1], [], sM Ln I L c s) Q) ∧ (¬ (lg_cmp (((a1.toUInt64 >>> (a4.toInt64.toUInt64 &&& Int64.toUInt64 63)).toInt64) &&& (Int64.ofNat 1)) (Int64.ofNat 0) = 0) → dd_Rn d m_X7_leastTogether (108, [.ref 139, .long a1, .null, .int a4, .int (a4 + 1), .int 1], [], sM Ln I L c s) Q))) ∧ (¬ (a3 = (-1)) → ((0 ≤ a4 ∧ tn a4 < 64) ∧ ((0 ≤ a3 ∧ tn a3 < 64) ∧ ((I 140 (tn a3) ≤ I 140 (tn a4) → ((lg_cmp (((a1.toUInt64 >>> (a4.toInt64.toUInt64 &&& Int64.toUInt64 63)).toInt64) &&& (Int64.ofNat 1)) (Int64.ofNat 0) = 0 → dd_Rn d m_X7_leastTogether (108, [.ref 139, .long a1, .null, .int a3, .int (a4 + 1), .int 0], [], sM Ln I L c s) Q) ∧ (¬ (lg_cmp (((a1.toUInt64 >>> (a4.toInt64.toUInt64 &&& Int64.toUInt64 63)).toInt64) &&& (Int64.ofNat 1)) (Int64.ofNat 0) = 0) → dd_Rn d m_X7_leastTogether (108, [.ref 139, .long a1, .null, .int a3, .int (a4 + 1), .int 0], [], sM Ln I L c s) Q))) ∧ (¬ (I 140 (tn a3) ≤ I 140 (tn a4)) → ((lg_cmp (((a1.toUInt64 >>> (a4.toInt64.toUInt64 &&& Int64.toUInt64 63)).toInt64) &&& (Int64.ofNat 1)) (Int64.ofNat 0) = 0 → dd_Rn d m_X7_leastTogether (108, [.ref 139, .long a1, .null, .int a3, .int (a4 + 1), .int 1], [], sM Ln I L c s) Q) ∧ (¬ (lg_cmp (((a1.toUInt64 >>> (a4.toInt64.toUInt64 &&& Int64.toUInt64 63)).toInt64) &&& (Int64.ofNat 1)) (Int64.ofNat 0) = 0) → dd_Rn d m_X7_leastTogether (108, [.ref 139, .long a1, .null, .int a4, .int (a4 + 1), .int 1], [], sM Ln I L c s) Q))))))))))) : dd_Rn d m_X7_leastTogether (108, [.ref 139, .long a1, .null, .int a3, .int a4, a5], [], sM Ln I L c s) Q := by
  obtain ⟨e, rfl⟩ : ∃ e, d = e + 16 := ⟨d - 16, by omega⟩
  refine dd_Rn.ite 2 (c := (64 : Int32) ≤ a4) (A := (168, [.ref 139, .long a1, .null, .int a3, .int a4, a5], [], sM Ln I L c s)) (B := (115, [.ref 139, .long a1, .null, .int a3, .int a4, a5], [], sM Ln I L c s)) rfl (fun hc => ?_) (fun hc => ?_) (by omega)
  · have h := h.1 hc
    exact dd_Rn.retK 1 (pc := 169) (ls := [.ref 139, .long a1, .null, .int a3, .int a4, a5]) (st := [.int a3]) (M := sM Ln I L c s) (o := (none, .int a3, sM Ln I L c s)) rfl rfl h (by omega)
  · have h := h.2 hc
    refine dd_Rn.ite 2 (c := a3 = (-1)) (A := (136, [.ref 139, .long a1, .null, .int a3, .int a4, a5], [], sM Ln I L c s)) (B := (120, [.ref 139, .long a1, .null, .int a3, .int a4, a5], [], sM Ln I L c s)) rfl (fun hc => ?_) (fun hc => ?_) (by omega)
    · have h := h.1 hc
      refine dd_Rn.ite 10 (c := lg_cmp (((a1.toUInt64 >>> (a4.toInt64.toUInt64 &&& Int64.toUInt64 63)).toInt64) &&& (Int64.ofNat 1)) (Int64.ofNat 0) = 0) (A := (162, [.ref 139, .long a1, .null, .int a3, .int a4, .int 1], [], sM Ln I L c s)) (B := (154, [.ref 139, .long a1, .null, .int a3, .int a4, .int 1], [], sM Ln I L c s)) rfl (fun hc => ?_) (fun hc => ?_) (by omega)
      · have h := h.1 hc
        exact dd_Rn.go 2 (cf' := (108, [.ref 139, .long a1, .null, .int a3, .int (a4 + 1), .int 1], [], sM Ln I L c s)) rfl h (by omega)
      · have h := h.2 hc
        exact dd_Rn.go 6 (cf' := (108, [.ref 139, .long a1, .null, .int a4, .int (a4 + 1), .int 1], [], sM Ln I L c s)) rfl h (by omega)
    · have h := h.2 hc
      obtain ⟨hc, h⟩ := h
      refine dd_Rn.chk 3 (c := 0 ≤ a4 ∧ tn a4 < 64) (A := (127, [.ref 139, .long a1, .null, .int a3, .int a4, a5], [.int (I 140 (tn a4))], sM Ln I L c s)) rfl hc ?_ (by omega)
      obtain ⟨hc, h⟩ := h
      refine dd_Rn.chk 3 (c := 0 ≤ a3 ∧ tn a3 < 64) (A := (133, [.ref 139, .long a1, .null, .int a3, .int a4, a5], [.int (I 140 (tn a3)), .int (I 140 (tn a4))], sM Ln I L c s)) rfl hc ?_ (by omega)
      refine dd_Rn.ite 0 (c := I 140 (tn a3) ≤ I 140 (tn a4)) (A := (140, [.ref 139, .long a1, .null, .int a3, .int a4, a5], [], sM Ln I L c s)) (B := (136, [.ref 139, .long a1, .null, .int a3, .int a4, a5], [], sM Ln I L c s)) rfl (fun hc => ?_) (fun hc => ?_) (by omega)
      · have h := h.1 hc
        refine dd_Rn.ite 9 (c := lg_cmp (((a1.toUInt64 >>> (a4.toInt64.toUInt64 &&& Int64.toUInt64 63)).toInt64) &&& (Int64.ofNat 1)) (Int64.ofNat 0) = 0) (A := (162, [.ref 139, .long a1, .null, .int a3, .int a4, .int 0], [], sM Ln I L c s)) (B := (154, [.ref 139, .long a1, .null, .int a3, .int a4, .int 0], [], sM Ln I L c s)) rfl (fun hc => ?_) (fun hc => ?_) (by omega)
        · have h := h.1 hc
          exact dd_Rn.go 2 (cf' := (108, [.ref 139, .long a1, .null, .int a3, .int (a4 + 1), .int 0], [], sM Ln I L c s)) rfl h (by omega)
        · have h := h.2 hc
          exact dd_Rn.go 4 (cf' := (108, [.ref 139, .long a1, .null, .int a3, .int (a4 + 1), .int 0], [], sM Ln I L c s)) rfl h (by omega)
      · have h := h.2 hc
        refine dd_Rn.ite 10 (c := lg_cmp (((a1.toUInt64 >>> (a4.toInt64.toUInt64 &&& Int64.toUInt64 63)).toInt64) &&& (Int64.ofNat 1)) (Int64.ofNat 0) = 0) (A := (162, [.ref 139, .long a1, .null, .int a3, .int a4, .int 1], [], sM Ln I L c s)) (B := (154, [.ref 139, .long a1, .null, .int a3, .int a4, .int 1], [], sM Ln I L c s)) rfl (fun hc => ?_) (fun hc => ?_) (by omega)
        · have h := h.1 hc
          exact dd_Rn.go 2 (cf' := (108, [.ref 139, .long a1, .null, .int a3, .int (a4 + 1), .int 1], [], sM Ln I L c s)) rfl h (by omega)
        · have h := h.2 hc
          exact dd_Rn.go 6 (cf' := (108, [.ref 139, .long a1, .null, .int a4, .int (a4 + 1), .int 1], [], sM Ln I L c s)) rfl h (by omega)

theorem w_X7_pieces_0 {Ln d c s : Nat} {I : Nat → Nat → Int32} {L : Nat → Nat → Int64} {Q : dd_O → Prop} (hd : 28 ≤ d) (h : dd_Rn d m_X7_pieces (17, [.ref 139, .long ((L 1 0) ^^^ (Int64.ofNat 18446744073709551615)), .null, .int 0, .int 0], [], sM Ln I L c s) Q) : dd_Ev d m_X7_pieces [.ref 139] (sM Ln I L c s) Q := by
  obtain ⟨e, rfl⟩ : ∃ e, d = e + 16 := ⟨d - 16, by omega⟩
  show dd_Rn (e + 16) m_X7_pieces (0, [.ref 139, .null, .null, .null, .null], [], sM Ln I L c s) Q
  exact dd_Rn.go 10 (cf' := (17, [.ref 139, .long ((L 1 0) ^^^ (Int64.ofNat 18446744073709551615)), .null, .int 0, .int 0], [], sM Ln I L c s)) rfl h (by omega)

theorem w_X7_pieces_17 {Ln d c s : Nat} {I : Nat → Nat → Int32} {L : Nat → Nat → Int64} {Q : dd_O → Prop} {a3 a4 : Int32} {a1 : Int64} (hd : 28 ≤ d) (h : (((64 : Int32) ≤ a4 → Q (none, .int a3, sM Ln I L c s)) ∧ (¬ ((64 : Int32) ≤ a4) → ((lg_cmp (((a1.toUInt64 >>> (a4.toInt64.toUInt64 &&& Int64.toUInt64 63)).toInt64) &&& (Int64.ofNat 1)) (Int64.ofNat 0) = 0 → dd_Rn d m_X7_pieces (17, [.ref 139, .long a1, .null, .int a3, .int (a4 + 1)], [], sM Ln I L c s) Q) ∧ (¬ (lg_cmp (((a1.toUInt64 >>> (a4.toInt64.toUInt64 &&& Int64.toUInt64 63)).toInt64) &&& (Int64.ofNat 1)) (Int64.ofNat 0) = 0) → dd_Ev (d - 1) m_X7_reached [.int a4, .long a1] (sM Ln I L c s) (dd_RL Ln c s (fun x1 I1 L1 => dd_Rn d m_X7_pieces (17, [.ref 139, .long (a1 &&& (x1 ^^^ (Int64.ofNat 18446744073709551615))), .null, .int (a3 + 1), .int (a4 + 1)], [], sM Ln I1 L1 c s) Q))))))) : dd_Rn d m_X7_pieces (17, [.ref 139, .long a1, .null, .int a3, .int a4], [], sM Ln I L c s) Q := by
  obtain ⟨e, rfl⟩ : ∃ e, d = e + 16 := ⟨d - 16, by omega⟩
  refine dd_Rn.ite 2 (c := (64 : Int32) ≤ a4) (A := (57, [.ref 139, .long a1, .null, .int a3, .int a4], [], sM Ln I L c s)) (B := (24, [.ref 139, .long a1, .null, .int a3, .int a4], [], sM Ln I L c s)) rfl (fun hc => ?_) (fun hc => ?_) (by omega)
  · have h := h.1 hc
    exact dd_Rn.retK 1 (pc := 58) (ls := [.ref 139, .long a1, .null, .int a3, .int a4]) (st := [.int a3]) (M := sM Ln I L c s) (o := (none, .int a3, sM Ln I L c s)) rfl rfl h (by omega)
  · have h := h.2 hc
    refine dd_Rn.ite 7 (c := lg_cmp (((a1.toUInt64 >>> (a4.toInt64.toUInt64 &&& Int64.toUInt64 63)).toInt64) &&& (Int64.ofNat 1)) (Int64.ofNat 0) = 0) (A := (51, [.ref 139, .long a1, .null, .int a3, .int a4], [], sM Ln I L c s)) (B := (35, [.ref 139, .long a1, .null, .int a3, .int a4], [], sM Ln I L c s)) rfl (fun hc => ?_) (fun hc => ?_) (by omega)
    · have h := h.1 hc
      exact dd_Rn.go 2 (cf' := (17, [.ref 139, .long a1, .null, .int a3, .int (a4 + 1)], [], sM Ln I L c s)) rfl h (by omega)
    · have h := h.2 hc
      refine dd_Rn.cL 3 (pc := 39) (ls := [.ref 139, .long a1, .null, .int a3, .int a4]) (st := [.long a1, .int a4, .long a1]) (x := m_X7_reached) (as := [.int a4, .long a1]) (rest := [.long a1]) rfl rfl rfl rfl h ?_
      intro x1 I1 L1 h
      show dd_Rn (e + 16) m_X7_pieces (42, [.ref 139, .long a1, .null, .int a3, .int a4], [.long x1, .long a1], sM Ln I1 L1 c s) _
      exact dd_Rn.go 7 (cf' := (17, [.ref 139, .long (a1 &&& (x1 ^^^ (Int64.ofNat 18446744073709551615))), .null, .int (a3 + 1), .int (a4 + 1)], [], sM Ln I1 L1 c s)) rfl h (by omega)

theorem w_X7_partingCells_0 {Ln d c s : Nat} {I : Nat → Nat → Int32} {L : Nat → Nat → Int64} {Q : dd_O → Prop} (hd : 28 ≤ d) (h : dd_Ev (d - 1) m_X7_lostCells [.ref 139] (sM Ln I L c s) (dd_RL Ln c s (fun x1 I1 L1 => dd_Ev (d - 1) m_X7_reached [.int (I1 1 13), .long ((L 1 0) ^^^ (Int64.ofNat 18446744073709551615))] (sM Ln I1 L1 c s) (dd_RL Ln c s (fun x2 I2 L2 => dd_Rn d m_X7_partingCells (35, [.ref 139, .long ((L 1 0) ^^^ (Int64.ofNat 18446744073709551615)), .null, .long (x1 &&& x2), .null, .int 0, .int 0, .null, .null], [], sM Ln I2 L2 c s) Q))))) : dd_Ev d m_X7_partingCells [.ref 139] (sM Ln I L c s) Q := by
  obtain ⟨e, rfl⟩ : ∃ e, d = e + 16 := ⟨d - 16, by omega⟩
  show dd_Rn (e + 16) m_X7_partingCells (0, [.ref 139, .null, .null, .null, .null, .null, .null, .null, .null], [], sM Ln I L c s) Q
  refine dd_Rn.cL 7 (pc := 13) (ls := [.ref 139, .long ((L 1 0) ^^^ (Int64.ofNat 18446744073709551615)), .null, .null, .null, .null, .null, .null, .null]) (st := [.ref 139]) (x := m_X7_lostCells) (as := [.ref 139]) (rest := []) rfl rfl rfl rfl h ?_
  intro x1 I1 L1 h
  show dd_Rn (e + 16) m_X7_partingCells (16, [.ref 139, .long ((L 1 0) ^^^ (Int64.ofNat 18446744073709551615)), .null, .null, .null, .null, .null, .null, .null], [.long x1], sM Ln I1 L1 c s) _
  refine dd_Rn.cL 4 (pc := 24) (ls := [.ref 139, .long ((L 1 0) ^^^ (Int64.ofNat 18446744073709551615)), .null, .null, .null, .null, .null, .null, .null]) (st := [.long ((L 1 0) ^^^ (Int64.ofNat 18446744073709551615)), .int (I1 1 13), .long x1]) (x := m_X7_reached) (as := [.int (I1 1 13), .long ((L 1 0) ^^^ (Int64.ofNat 18446744073709551615))]) (rest := [.long x1]) rfl rfl rfl rfl h ?_
  intro x2 I2 L2 h
  show dd_Rn (e + 16) m_X7_partingCells (27, [.ref 139, .long ((L 1 0) ^^^ (Int64.ofNat 18446744073709551615)), .null, .null, .null, .null, .null, .null, .null], [.long x2, .long x1], sM Ln I2 L2 c s) _
  exact dd_Rn.go 6 (cf' := (35, [.ref 139, .long ((L 1 0) ^^^ (Int64.ofNat 18446744073709551615)), .null, .long (x1 &&& x2), .null, .int 0, .int 0, .null, .null], [], sM Ln I2 L2 c s)) rfl h (by omega)

theorem w_X7_partingCells_35 {Ln d c s : Nat} {I : Nat → Nat → Int32} {L : Nat → Nat → Int64} {Q : dd_O → Prop} {a5 a6 : Int32} {a1 a3 : Int64} {a7 : Value} (hd : 28 ≤ d) (h : (((64 : Int32) ≤ a6 → Q (none, .int a5, sM Ln I L c s)) ∧ (¬ ((64 : Int32) ≤ a6) → dd_Ev (d - 1) m_X8_isOpen [.ref 1, .int a6] (sM Ln I L c s) (dd_RI Ln c s (fun x1 I1 L1 => ((x1 = 0 → dd_Rn d m_X7_partingCells (35, [.ref 139, .long a1, .null, .long a3, .null, .int a5, .int (a6 + 1), a7, .null], [], sM Ln I1 L1 c s) Q) ∧ (¬ (x1 = 0) → dd_Ev (d - 1) m_X8_canPlant [.ref 1, .int a6] (sM Ln I1 L1 c s) (dd_RI Ln c s (fun x2 I2 L2 => ((x2 = 0 → dd_Rn d m_X7_partingCells (35, [.ref 139, .long a1, .null, .long a3, .null, .int a5, .int (a6 + 1), a7, .null], [], sM Ln I2 L2 c s) Q) ∧ (¬ (x2 = 0) → dd_Ev (d - 1) m_X7_reached [.int (I2 1 13), .long (a1 &&& (((Int64.ofNat 1) <<< (a6.toInt64 &&& 63)) ^^^ (Int64.ofNat 18446744073709551615)))] (sM Ln I2 L2 c s) (dd_RL Ln c s (fun x3 I3 L3 => ((lg_cmp (a3 &&& (x3 ^^^ (Int64.ofNat 18446744073709551615))) (Int64.ofNat 0) = 0 → dd_Rn d m_X7_partingCells (35, [.ref 139, .long a1, .null, .long a3, .null, .int a5, .int (a6 + 1), .long x3, .null], [], sM Ln I3 L3 c s) Q) ∧ (¬ (lg_cmp (a3 &&& (x3 ^^^ (Int64.ofNat 18446744073709551615))) (Int64.ofNat 0) = 0) → dd_Rn d m_X7_partingCells (35, [.ref 139, .long a1, .null, .long a3, .null, .int (a5 + 1), .int (a6 + 1), .long x3, .null], [], sM Ln I3 L3 c s) Q))))))))))))))) : dd_Rn d m_X7_partingCells (35, [.ref 139, .long a1, .null, .long a3, .null, .int a5, .int a6, a7, .null], [], sM Ln I L c s) Q := by
  obtain ⟨e, rfl⟩ : ∃ e, d = e + 16 := ⟨d - 16, by omega⟩
  refine dd_Rn.ite 2 (c := (64 : Int32) ≤ a6) (A := (110, [.ref 139, .long a1, .null, .long a3, .null, .int a5, .int a6, a7, .null], [], sM Ln I L c s)) (B := (42, [.ref 139, .long a1, .null, .long a3, .null, .int a5, .int a6, a7, .null], [], sM Ln I L c s)) rfl (fun hc => ?_) (fun hc => ?_) (by omega)
  · have h := h.1 hc
    exact dd_Rn.retK 1 (pc := 112) (ls := [.ref 139, .long a1, .null, .long a3, .null, .int a5, .int a6, a7, .null]) (st := [.int a5]) (M := sM Ln I L c s) (o := (none, .int a5, sM Ln I L c s)) rfl rfl h (by omega)
  · have h := h.2 hc
    refine dd_Rn.cI 3 (pc := 48) (ls := [.ref 139, .long a1, .null, .long a3, .null, .int a5, .int a6, a7, .null]) (st := [.int a6, .ref 1]) (x := m_X8_isOpen) (as := [.ref 1, .int a6]) (rest := []) rfl rfl rfl rfl h ?_
    intro x1 I1 L1 h
    show dd_Rn (e + 16) m_X7_partingCells (51, [.ref 139, .long a1, .null, .long a3, .null, .int a5, .int a6, a7, .null], [.int x1], sM Ln I1 L1 c s) _
    refine dd_Rn.ite 0 (c := x1 = 0) (A := (104, [.ref 139, .long a1, .null, .long a3, .null, .int a5, .int a6, a7, .null], [], sM Ln I1 L1 c s)) (B := (54, [.ref 139, .long a1, .null, .long a3, .null, .int a5, .int a6, a7, .null], [], sM Ln I1 L1 c s)) rfl (fun hc => ?_) (fun hc => ?_) (by omega)
    · have h := h.1 hc
      exact dd_Rn.go 2 (cf' := (35, [.ref 139, .long a1, .null, .long a3, .null, .int a5, .int (a6 + 1), a7, .null], [], sM Ln I1 L1 c s)) rfl h (by omega)
    · have h := h.2 hc
      refine dd_Rn.cI 3 (pc := 60) (ls := [.ref 139, .long a1, .null, .long a3, .null, .int a5, .int a6, a7, .null]) (st := [.int a6, .ref 1]) (x := m_X8_canPlant) (as := [.ref 1, .int a6]) (rest := []) rfl rfl rfl rfl h ?_
      intro x2 I2 L2 h
      show dd_Rn (e + 16) m_X7_partingCells (63, [.ref 139, .long a1, .null, .long a3, .null, .int a5, .int a6, a7, .null], [.int x2], sM Ln I2 L2 c s) _
      refine dd_Rn.ite 0 (c := x2 = 0) (A := (104, [.ref 139, .long a1, .null, .long a3, .null, .int a5, .int a6, a7, .null], [], sM Ln I2 L2 c s)) (B := (66, [.ref 139, .long a1, .null, .long a3, .null, .int a5, .int a6, a7, .null], [], sM Ln I2 L2 c s)) rfl (fun hc => ?_) (fun hc => ?_) (by omega)
      · have h := h.1 hc
        exact dd_Rn.go 2 (cf' := (35, [.ref 139, .long a1, .null, .long a3, .null, .int a5, .int (a6 + 1), a7, .null], [], sM Ln I2 L2 c s)) rfl h (by omega)
      · have h := h.2 hc
        refine dd_Rn.cL 10 (pc := 83) (ls := [.ref 139, .long a1, .null, .long a3, .null, .int a5, .int a6, a7, .null]) (st := [.long (a1 &&& (((Int64.ofNat 1) <<< (a6.toInt64 &&& 63)) ^^^ (Int64.ofNat 18446744073709551615))), .int (I2 1 13)]) (x := m_X7_reached) (as := [.int (I2 1 13), .long (a1 &&& (((Int64.ofNat 1) <<< (a6.toInt64 &&& 63)) ^^^ (Int64.ofNat 18446744073709551615)))]) (rest := []) rfl rfl rfl rfl h ?_
        intro x3 I3 L3 h
        show dd_Rn (e + 16) m_X7_partingCells (86, [.ref 139, .long a1, .null, .long a3, .null, .int a5, .int a6, a7, .null], [.long x3], sM Ln I3 L3 c s) _
        refine dd_Rn.ite 8 (c := lg_cmp (a3 &&& (x3 ^^^ (Int64.ofNat 18446744073709551615))) (Int64.ofNat 0) = 0) (A := (104, [.ref 139, .long a1, .null, .long a3, .null, .int a5, .int a6, .long x3, .null], [], sM Ln I3 L3 c s)) (B := (101, [.ref 139, .long a1, .null, .long a3, .null, .int a5, .int a6, .long x3, .null], [], sM Ln I3 L3 c s)) rfl (fun hc => ?_) (fun hc => ?_) (by omega)
        · have h := h.1 hc
          exact dd_Rn.go 2 (cf' := (35, [.ref 139, .long a1, .null, .long a3, .null, .int a5, .int (a6 + 1), .long x3, .null], [], sM Ln I3 L3 c s)) rfl h (by omega)
        · have h := h.2 hc
          exact dd_Rn.go 3 (cf' := (35, [.ref 139, .long a1, .null, .long a3, .null, .int (a5 + 1), .int (a6 + 1), .long x3, .null], [], sM Ln I3 L3 c s)) rfl h (by omega)

theorem w_X7_lostCells_0 {Ln d c s : Nat} {I : Nat → Nat → Int32} {L : Nat → Nat → Int64} {Q : dd_O → Prop} (hd : 28 ≤ d) (h : dd_Rn d m_X7_lostCells (4, [.ref 139, .long (Int64.ofNat 0), .null, .int 0], [], sM Ln I L c s) Q) : dd_Ev d m_X7_lostCells [.ref 139] (sM Ln I L c s) Q := by
  obtain ⟨e, rfl⟩ : ∃ e, d = e + 16 := ⟨d - 16, by omega⟩
  show dd_Rn (e + 16) m_X7_lostCells (0, [.ref 139, .null, .null, .null], [], sM Ln I L c s) Q
  exact dd_Rn.go 4 (cf' := (4, [.ref 139, .long (Int64.ofNat 0), .null, .int 0], [], sM Ln I L c s)) rfl h (by omega)

theorem w_X7_lostCells_4 {Ln d c s : Nat} {I : Nat → Nat → Int32} {L : Nat → Nat → Int64} {Q : dd_O → Prop} {a3 : Int32} {a1 : Int64} (hd : 28 ≤ d) (h : ((I 1 10 ≤ a3 → Q (none, .long a1, sM Ln I L c s)) ∧ (¬ (I 1 10 ≤ a3) → dd_Ev (d - 1) m_X8_isIn [.ref 1, .int a3] (sM Ln I L c s) (dd_RI Ln c s (fun x1 I1 L1 => ((x1 = 0 → ((0 ≤ a3 ∧ tn a3 < 6) ∧ dd_Rn d m_X7_lostCells (4, [.ref 139, .long (a1 ||| ((Int64.ofNat 1) <<< ((I1 4 (tn a3)).toInt64 &&& 63))), .null, .int (a3 + 1)], [], sM Ln I1 L1 c s) Q)) ∧ (¬ (x1 = 0) → dd_Rn d m_X7_lostCells (4, [.ref 139, .long a1, .null, .int (a3 + 1)], [], sM Ln I1 L1 c s) Q))))))) : dd_Rn d m_X7_lostCells (4, [.ref 139, .long a1, .null, .int a3], [], sM Ln I L c s) Q := by
  obtain ⟨e, rfl⟩ : ∃ e, d = e + 16 := ⟨d - 16, by omega⟩
  refine dd_Rn.ite 4 (c := I 1 10 ≤ a3) (A := (46, [.ref 139, .long a1, .null, .int a3], [], sM Ln I L c s)) (B := (15, [.ref 139, .long a1, .null, .int a3], [], sM Ln I L c s)) rfl (fun hc => ?_) (fun hc => ?_) (by omega)
  · have h := h.1 hc
    exact dd_Rn.retK 1 (pc := 47) (ls := [.ref 139, .long a1, .null, .int a3]) (st := [.long a1]) (M := sM Ln I L c s) (o := (none, .long a1, sM Ln I L c s)) rfl rfl h (by omega)
  · have h := h.2 hc
    refine dd_Rn.cI 3 (pc := 20) (ls := [.ref 139, .long a1, .null, .int a3]) (st := [.int a3, .ref 1]) (x := m_X8_isIn) (as := [.ref 1, .int a3]) (rest := []) rfl rfl rfl rfl h ?_
    intro x1 I1 L1 h
    show dd_Rn (e + 16) m_X7_lostCells (23, [.ref 139, .long a1, .null, .int a3], [.int x1], sM Ln I1 L1 c s) _
    refine dd_Rn.ite 0 (c := x1 = 0) (A := (26, [.ref 139, .long a1, .null, .int a3], [], sM Ln I1 L1 c s)) (B := (40, [.ref 139, .long a1, .null, .int a3], [], sM Ln I1 L1 c s)) rfl (fun hc => ?_) (fun hc => ?_) (by omega)
    · have h := h.1 hc
      obtain ⟨hc, h⟩ := h
      refine dd_Rn.chk 6 (c := 0 ≤ a3 ∧ tn a3 < 6) (A := (37, [.ref 139, .long a1, .null, .int a3], [.int (I1 4 (tn a3)), .long (Int64.ofNat 1), .long a1], sM Ln I1 L1 c s)) rfl hc ?_ (by omega)
      exact dd_Rn.go 5 (cf' := (4, [.ref 139, .long (a1 ||| ((Int64.ofNat 1) <<< ((I1 4 (tn a3)).toInt64 &&& 63))), .null, .int (a3 + 1)], [], sM Ln I1 L1 c s)) rfl h (by omega)
    · have h := h.2 hc
      exact dd_Rn.go 2 (cf' := (4, [.ref 139, .long a1, .null, .int (a3 + 1)], [], sM Ln I1 L1 c s)) rfl h (by omega)
