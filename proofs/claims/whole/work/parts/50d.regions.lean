/-! Region lemmas, written by program (gen/regions_all.py) -/
theorem w_X11_thrown_0 {Ln d c s : Nat} {I : Nat → Nat → Int32} {L : Nat → Nat → Int64} {Q : dd_O → Prop} (hd : 28 ≤ d) (h : Q (none, .int (I 148 0), sM Ln I L c s)) : dd_Ev d m_X11_thrown [.ref 148] (sM Ln I L c s) Q := by
  obtain ⟨e, rfl⟩ : ∃ e, d = e + 16 := ⟨d - 16, by omega⟩
  show dd_Rn (e + 16) m_X11_thrown (0, [.ref 148], [], sM Ln I L c s) Q
  exact dd_Rn.retK 2 (pc := 4) (ls := [.ref 148]) (st := [.int (I 148 0)]) (M := sM Ln I L c s) (o := (none, .int (I 148 0), sM Ln I L c s)) rfl rfl h (by omega)

theorem w_X11_image_0 {Ln d c s : Nat} {I : Nat → Nat → Int32} {L : Nat → Nat → Int64} {Q : dd_O → Prop} (hd : 28 ≤ d) (h : dd_Rn d m_X11_image (7, [.ref 148, .int 0], [], sM Ln (dd_u I 148 (upd (I 148) 0 0)) L c s) Q) : dd_Ev d m_X11_image [.ref 148] (sM Ln I L c s) Q := by
  obtain ⟨e, rfl⟩ : ∃ e, d = e + 16 := ⟨d - 16, by omega⟩
  show dd_Rn (e + 16) m_X11_image (0, [.ref 148, .null], [], sM Ln I L c s) Q
  exact dd_Rn.go 5 (cf' := (7, [.ref 148, .int 0], [], sM Ln (dd_u I 148 (upd (I 148) 0 0)) L c s)) rfl h (by omega)

theorem w_X11_image_7 {Ln d c s : Nat} {I : Nat → Nat → Int32} {L : Nat → Nat → Int64} {Q : dd_O → Prop} {a1 : Int32} (hd : 28 ≤ d) (h : (((1371 : Int32) ≤ a1 → Q (none, .null, sM Ln (dd_u I 148 (upd (I 148) 6 1)) L c s)) ∧ (¬ ((1371 : Int32) ≤ a1) → ((0 ≤ a1 ∧ tn a1 < 2220) ∧ ((0 ≤ a1 ∧ tn a1 < 1371) ∧ dd_Rn d m_X11_image (7, [.ref 148, .int (a1 + 1)], [], sM Ln (dd_u I 150 (upd (I 150) (tn a1) (I 149 (tn a1)))) L c s) Q))))) : dd_Rn d m_X11_image (7, [.ref 148, .int a1], [], sM Ln I L c s) Q := by
  obtain ⟨e, rfl⟩ : ∃ e, d = e + 16 := ⟨d - 16, by omega⟩
  refine dd_Rn.ite 2 (c := (1371 : Int32) ≤ a1) (A := (32, [.ref 148, .int a1], [], sM Ln I L c s)) (B := (14, [.ref 148, .int a1], [], sM Ln I L c s)) rfl (fun hc => ?_) (fun hc => ?_) (by omega)
  · have h := h.1 hc
    exact dd_Rn.retK 3 (pc := 37) (ls := [.ref 148, .int a1]) (st := []) (M := sM Ln (dd_u I 148 (upd (I 148) 6 1)) L c s) (o := (none, .null, sM Ln (dd_u I 148 (upd (I 148) 6 1)) L c s)) rfl rfl h (by omega)
  · have h := h.2 hc
    obtain ⟨hc, h⟩ := h
    refine dd_Rn.chk 6 (c := 0 ≤ a1 ∧ tn a1 < 2220) (A := (25, [.ref 148, .int a1], [.int (I 149 (tn a1)), .int a1, .ref 150], sM Ln I L c s)) rfl hc ?_ (by omega)
    obtain ⟨hc, h⟩ := h
    refine dd_Rn.chk 0 (c := 0 ≤ a1 ∧ tn a1 < 1371) (A := (26, [.ref 148, .int a1], [], sM Ln (dd_u I 150 (upd (I 150) (tn a1) (I 149 (tn a1)))) L c s)) rfl hc ?_ (by omega)
    exact dd_Rn.go 2 (cf' := (7, [.ref 148, .int (a1 + 1)], [], sM Ln (dd_u I 150 (upd (I 150) (tn a1) (I 149 (tn a1)))) L c s)) rfl h (by omega)

theorem w_X11_back_0 {Ln d c s : Nat} {I : Nat → Nat → Int32} {L : Nat → Nat → Int64} {Q : dd_O → Prop} (hd : 28 ≤ d) (h : ((I 148 6 = 0 → Q (none, .int 0, sM Ln (dd_u I 148 (upd (I 148) 0 0)) L c s)) ∧ (¬ (I 148 6 = 0) → dd_Rn d m_X11_back (16, [.ref 148, .int 0], [], sM Ln (dd_u I 148 (upd (I 148) 0 0)) L c s) Q))) : dd_Ev d m_X11_back [.ref 148] (sM Ln I L c s) Q := by
  obtain ⟨e, rfl⟩ : ∃ e, d = e + 16 := ⟨d - 16, by omega⟩
  show dd_Rn (e + 16) m_X11_back (0, [.ref 148, .null], [], sM Ln I L c s) Q
  refine dd_Rn.ite 5 (c := I 148 6 = 0) (A := (12, [.ref 148, .null], [], sM Ln (dd_u I 148 (upd (I 148) 0 0)) L c s)) (B := (14, [.ref 148, .null], [], sM Ln (dd_u I 148 (upd (I 148) 0 0)) L c s)) rfl (fun hc => ?_) (fun hc => ?_) (by omega)
  · have h := h.1 hc
    exact dd_Rn.retK 1 (pc := 13) (ls := [.ref 148, .null]) (st := [.int 0]) (M := sM Ln (dd_u I 148 (upd (I 148) 0 0)) L c s) (o := (none, .int 0, sM Ln (dd_u I 148 (upd (I 148) 0 0)) L c s)) rfl rfl h (by omega)
  · have h := h.2 hc
    exact dd_Rn.go 2 (cf' := (16, [.ref 148, .int 0], [], sM Ln (dd_u I 148 (upd (I 148) 0 0)) L c s)) rfl h (by omega)

theorem w_X11_back_16 {Ln d c s : Nat} {I : Nat → Nat → Int32} {L : Nat → Nat → Int64} {Q : dd_O → Prop} {a1 : Int32} (hd : 28 ≤ d) (h : (((1371 : Int32) ≤ a1 → Q (none, .int 1, sM Ln (dd_u I 148 (upd (I 148) 7 0)) L c s)) ∧ (¬ ((1371 : Int32) ≤ a1) → ((0 ≤ a1 ∧ tn a1 < 1371) ∧ ((0 ≤ a1 ∧ tn a1 < 2220) ∧ dd_Rn d m_X11_back (16, [.ref 148, .int (a1 + 1)], [], sM Ln (dd_u I 149 (upd (I 149) (tn a1) (I 150 (tn a1)))) L c s) Q))))) : dd_Rn d m_X11_back (16, [.ref 148, .int a1], [], sM Ln I L c s) Q := by
  obtain ⟨e, rfl⟩ : ∃ e, d = e + 16 := ⟨d - 16, by omega⟩
  refine dd_Rn.ite 2 (c := (1371 : Int32) ≤ a1) (A := (41, [.ref 148, .int a1], [], sM Ln I L c s)) (B := (23, [.ref 148, .int a1], [], sM Ln I L c s)) rfl (fun hc => ?_) (fun hc => ?_) (by omega)
  · have h := h.1 hc
    exact dd_Rn.retK 4 (pc := 47) (ls := [.ref 148, .int a1]) (st := [.int 1]) (M := sM Ln (dd_u I 148 (upd (I 148) 7 0)) L c s) (o := (none, .int 1, sM Ln (dd_u I 148 (upd (I 148) 7 0)) L c s)) rfl rfl h (by omega)
  · have h := h.2 hc
    obtain ⟨hc, h⟩ := h
    refine dd_Rn.chk 6 (c := 0 ≤ a1 ∧ tn a1 < 1371) (A := (34, [.ref 148, .int a1], [.int (I 150 (tn a1)), .int a1, .ref 149], sM Ln I L c s)) rfl hc ?_ (by omega)
    obtain ⟨hc, h⟩ := h
    refine dd_Rn.chk 0 (c := 0 ≤ a1 ∧ tn a1 < 2220) (A := (35, [.ref 148, .int a1], [], sM Ln (dd_u I 149 (upd (I 149) (tn a1) (I 150 (tn a1)))) L c s)) rfl hc ?_ (by omega)
    exact dd_Rn.go 2 (cf' := (16, [.ref 148, .int (a1 + 1)], [], sM Ln (dd_u I 149 (upd (I 149) (tn a1) (I 150 (tn a1)))) L c s)) rfl h (by omega)

theorem w_X11_undo_0 {Ln d c s : Nat} {I : Nat → Nat → Int32} {L : Nat → Nat → Int64} {Q : dd_O → Prop} (hd : 28 ≤ d) (h : ((I 148 7 = 0 → Q (none, .int 0, sM Ln (dd_u I 148 (upd (I 148) 0 0)) L c s)) ∧ (¬ (I 148 7 = 0) → dd_Rn d m_X11_undo (26, [.ref 148, .int 0], [], sM Ln (dd_u (dd_u I 148 (upd (I 148) 0 0)) 148 (upd (upd (I 148) 0 0) 7 ((I 148 7) - 1))) L c s) Q))) : dd_Ev d m_X11_undo [.ref 148] (sM Ln I L c s) Q := by
  obtain ⟨e, rfl⟩ : ∃ e, d = e + 16 := ⟨d - 16, by omega⟩
  show dd_Rn (e + 16) m_X11_undo (0, [.ref 148, .null], [], sM Ln I L c s) Q
  refine dd_Rn.ite 5 (c := I 148 7 = 0) (A := (12, [.ref 148, .null], [], sM Ln (dd_u I 148 (upd (I 148) 0 0)) L c s)) (B := (14, [.ref 148, .null], [], sM Ln (dd_u I 148 (upd (I 148) 0 0)) L c s)) rfl (fun hc => ?_) (fun hc => ?_) (by omega)
  · have h := h.1 hc
    exact dd_Rn.retK 1 (pc := 13) (ls := [.ref 148, .null]) (st := [.int 0]) (M := sM Ln (dd_u I 148 (upd (I 148) 0 0)) L c s) (o := (none, .int 0, sM Ln (dd_u I 148 (upd (I 148) 0 0)) L c s)) rfl rfl h (by omega)
  · have h := h.2 hc
    exact dd_Rn.go 8 (cf' := (26, [.ref 148, .int 0], [], sM Ln (dd_u (dd_u I 148 (upd (I 148) 0 0)) 148 (upd (upd (I 148) 0 0) 7 ((I 148 7) - 1))) L c s)) rfl h (by omega)

theorem w_X11_undo_26 {Ln d c s : Nat} {I : Nat → Nat → Int32} {L : Nat → Nat → Int64} {Q : dd_O → Prop} {a1 : Int32} (hd : 28 ≤ d) (h : (((522 : Int32) ≤ a1 → Q (none, .int 1, sM Ln I L c s)) ∧ (¬ ((522 : Int32) ≤ a1) → ((0 ≤ ((522 : Int32) * (I 148 7)) + a1 ∧ tn (((522 : Int32) * (I 148 7)) + a1) < 6264) ∧ ((0 ≤ a1 ∧ tn a1 < 2220) ∧ dd_Rn d m_X11_undo (26, [.ref 148, .int (a1 + 1)], [], sM Ln (dd_u I 149 (upd (I 149) (tn a1) (I 153 (tn (((522 : Int32) * (I 148 7)) + a1))))) L c s) Q))))) : dd_Rn d m_X11_undo (26, [.ref 148, .int a1], [], sM Ln I L c s) Q := by
  obtain ⟨e, rfl⟩ : ∃ e, d = e + 16 := ⟨d - 16, by omega⟩
  refine dd_Rn.ite 2 (c := (522 : Int32) ≤ a1) (A := (60, [.ref 148, .int a1], [], sM Ln I L c s)) (B := (33, [.ref 148, .int a1], [], sM Ln I L c s)) rfl (fun hc => ?_) (fun hc => ?_) (by omega)
  · have h := h.1 hc
    exact dd_Rn.retK 1 (pc := 61) (ls := [.ref 148, .int a1]) (st := [.int 1]) (M := sM Ln I L c s) (o := (none, .int 1, sM Ln I L c s)) rfl rfl h (by omega)
  · have h := h.2 hc
    obtain ⟨hc, h⟩ := h
    refine dd_Rn.go 11 (cf' := (52, [.ref 148, .int a1], [.int (((522 : Int32) * (I 148 7)) + a1), .ref 153, .int a1, .ref 149], sM Ln I L c s)) rfl ?_ (by omega)
    refine dd_Rn.ci (fun j0 => (52, [.ref 148, .int a1], [.int j0, .ref 153, .int a1, .ref 149], sM Ln I L c s)) (fun j0 => (53, [.ref 148, .int a1], [.int (I 153 (tn j0)), .int a1, .ref 149], sM Ln I L c s)) (fun j0 => 0 ≤ j0 ∧ tn j0 < 6264) (((522 : Int32) * (I 148 7)) + a1) (fun j0 hc h => dd_Rn.chk 0 (c := 0 ≤ j0 ∧ tn j0 < 6264) (A := (53, [.ref 148, .int a1], [.int (I 153 (tn j0)), .int a1, .ref 149], sM Ln I L c s)) rfl hc h (by omega)) hc ?_
    refine dd_Rn.se (cf := (53, [.ref 148, .int a1], [.int (I 153 (tn (((522 : Int32) * (I 148 7)) + a1))), .int a1, .ref 149], sM Ln I L c s)) ?_
    obtain ⟨hc, h⟩ := h
    refine dd_Rn.chk 0 (c := 0 ≤ a1 ∧ tn a1 < 2220) (A := (54, [.ref 148, .int a1], [], sM Ln (dd_u I 149 (upd (I 149) (tn a1) (I 153 (tn (((522 : Int32) * (I 148 7)) + a1))))) L c s)) rfl hc ?_ (by omega)
    exact dd_Rn.go 2 (cf' := (26, [.ref 148, .int (a1 + 1)], [], sM Ln (dd_u I 149 (upd (I 149) (tn a1) (I 153 (tn (((522 : Int32) * (I 148 7)) + a1))))) L c s)) rfl h (by omega)

theorem w_X11_feed_0 {Ln d c s : Nat} {I : Nat → Nat → Int32} {L : Nat → Nat → Int64} {Q : dd_O → Prop} {a1 a2 a3 a4 a5 : Int32} (hd : 28 ≤ d) (h : (((I 148 9) + 20 ≤ 400 → dd_Rn d m_X11_feed (60, [.ref 148, .int a1, .int a2, .int a3, .int a4, .int a5, .int 0], [], sM Ln (dd_u (dd_u (dd_u (dd_u (dd_u (dd_u I 148 (upd (I 148) 0 0)) 155 (upd (I 155) 0 a1)) 155 (upd (upd (I 155) 0 a1) 1 a2)) 155 (upd (upd (upd (I 155) 0 a1) 1 a2) 2 a3)) 155 (upd (upd (upd (upd (I 155) 0 a1) 1 a2) 2 a3) 3 a4)) 155 (upd (upd (upd (upd (upd (I 155) 0 a1) 1 a2) 2 a3) 3 a4) 4 a5)) L c s) Q) ∧ (¬ ((I 148 9) + 20 ≤ 400) → Q (none, .int (-1), sM Ln (dd_u I 148 (upd (I 148) 0 0)) L c s)))) : dd_Ev d m_X11_feed [.ref 148, .int a1, .int a2, .int a3, .int a4, .int a5] (sM Ln I L c s) Q := by
  obtain ⟨e, rfl⟩ : ∃ e, d = e + 16 := ⟨d - 16, by omega⟩
  show dd_Rn (e + 16) m_X11_feed (0, [.ref 148, .int a1, .int a2, .int a3, .int a4, .int a5, .null], [], sM Ln I L c s) Q
  refine dd_Rn.ite 8 (c := (I 148 9) + 20 ≤ 400) (A := (20, [.ref 148, .int a1, .int a2, .int a3, .int a4, .int a5, .null], [], sM Ln (dd_u I 148 (upd (I 148) 0 0)) L c s)) (B := (18, [.ref 148, .int a1, .int a2, .int a3, .int a4, .int a5, .null], [], sM Ln (dd_u I 148 (upd (I 148) 0 0)) L c s)) rfl (fun hc => ?_) (fun hc => ?_) (by omega)
  · have h := h.1 hc
    exact dd_Rn.go 27 (cf' := (60, [.ref 148, .int a1, .int a2, .int a3, .int a4, .int a5, .int 0], [], sM Ln (dd_u (dd_u (dd_u (dd_u (dd_u (dd_u I 148 (upd (I 148) 0 0)) 155 (upd (I 155) 0 a1)) 155 (upd (upd (I 155) 0 a1) 1 a2)) 155 (upd (upd (upd (I 155) 0 a1) 1 a2) 2 a3)) 155 (upd (upd (upd (upd (I 155) 0 a1) 1 a2) 2 a3) 3 a4)) 155 (upd (upd (upd (upd (upd (I 155) 0 a1) 1 a2) 2 a3) 3 a4) 4 a5)) L c s)) rfl h (by omega)
  · have h := h.2 hc
    exact dd_Rn.retK 1 (pc := 19) (ls := [.ref 148, .int a1, .int a2, .int a3, .int a4, .int a5, .null]) (st := [.int (-1)]) (M := sM Ln (dd_u I 148 (upd (I 148) 0 0)) L c s) (o := (none, .int (-1), sM Ln (dd_u I 148 (upd (I 148) 0 0)) L c s)) rfl rfl h (by omega)

theorem w_X11_feed_60 {Ln d c s : Nat} {I : Nat → Nat → Int32} {L : Nat → Nat → Int64} {Q : dd_O → Prop} {a1 a2 a3 a4 a5 a6 : Int32} (hd : 28 ≤ d) (h : (((20 : Int32) ≤ a6 → Q (none, .int ((I 148 9) + 20), sM Ln (dd_u I 148 (upd (I 148) 9 ((I 148 9) + 20))) L c s)) ∧ (¬ ((20 : Int32) ≤ a6) → ((0 ≤ a6 / 4 ∧ tn (a6 / 4) < 5) ∧ ((0 ≤ (I 148 9) + a6 ∧ tn ((I 148 9) + a6) < 400) ∧ dd_Rn d m_X11_feed (60, [.ref 148, .int a1, .int a2, .int a3, .int a4, .int a5, .int (a6 + 1)], [], sM Ln (dd_u I 154 (upd (I 154) (tn ((I 148 9) + a6)) ((((I 155 (tn (a6 / 4))) >>> (((24 : Int32) - ((8 : Int32) * (a6 - a6 / 4 * 4))) &&& 31) : Int32).toInt8.toInt32).toInt8.toInt32))) L c s) Q))))) : dd_Rn d m_X11_feed (60, [.ref 148, .int a1, .int a2, .int a3, .int a4, .int a5, .int a6], [], sM Ln I L c s) Q := by
  obtain ⟨e, rfl⟩ : ∃ e, d = e + 16 := ⟨d - 16, by omega⟩
  refine dd_Rn.ite 2 (c := (20 : Int32) ≤ a6) (A := (106, [.ref 148, .int a1, .int a2, .int a3, .int a4, .int a5, .int a6], [], sM Ln I L c s)) (B := (67, [.ref 148, .int a1, .int a2, .int a3, .int a4, .int a5, .int a6], [], sM Ln I L c s)) rfl (fun hc => ?_) (fun hc => ?_) (by omega)
  · have h := h.1 hc
    exact dd_Rn.retK 8 (pc := 121) (ls := [.ref 148, .int a1, .int a2, .int a3, .int a4, .int a5, .int a6]) (st := [.int ((I 148 9) + 20)]) (M := sM Ln (dd_u I 148 (upd (I 148) 9 ((I 148 9) + 20))) L c s) (o := (none, .int ((I 148 9) + 20), sM Ln (dd_u I 148 (upd (I 148) 9 ((I 148 9) + 20))) L c s)) rfl rfl h (by omega)
  · have h := h.2 hc
    obtain ⟨hc, h⟩ := h
    refine dd_Rn.go 11 (cf' := (86, [.ref 148, .int a1, .int a2, .int a3, .int a4, .int a5, .int a6], [.int (a6 / 4), .ref 155, .int ((I 148 9) + a6), .ref 154], sM Ln I L c s)) rfl ?_ (by omega)
    refine dd_Rn.ci (fun j0 => (86, [.ref 148, .int a1, .int a2, .int a3, .int a4, .int a5, .int a6], [.int j0, .ref 155, .int ((I 148 9) + a6), .ref 154], sM Ln I L c s)) (fun j0 => (87, [.ref 148, .int a1, .int a2, .int a3, .int a4, .int a5, .int a6], [.int (I 155 (tn j0)), .int ((I 148 9) + a6), .ref 154], sM Ln I L c s)) (fun j0 => 0 ≤ j0 ∧ tn j0 < 5) (a6 / 4) (fun j0 hc h => dd_Rn.chk 0 (c := 0 ≤ j0 ∧ tn j0 < 5) (A := (87, [.ref 148, .int a1, .int a2, .int a3, .int a4, .int a5, .int a6], [.int (I 155 (tn j0)), .int ((I 148 9) + a6), .ref 154], sM Ln I L c s)) rfl hc h (by omega)) hc ?_
    refine dd_Rn.se (cf := (87, [.ref 148, .int a1, .int a2, .int a3, .int a4, .int a5, .int a6], [.int (I 155 (tn (a6 / 4))), .int ((I 148 9) + a6), .ref 154], sM Ln I L c s)) ?_
    obtain ⟨hc, h⟩ := h
    refine dd_Rn.go 9 (cf' := (99, [.ref 148, .int a1, .int a2, .int a3, .int a4, .int a5, .int a6], [.int (((I 155 (tn (a6 / 4))) >>> (((24 : Int32) - ((8 : Int32) * (a6 - a6 / 4 * 4))) &&& 31) : Int32).toInt8.toInt32), .int ((I 148 9) + a6), .ref 154], sM Ln I L c s)) rfl ?_ (by omega)
    refine dd_Rn.ci (fun j0 => (99, [.ref 148, .int a1, .int a2, .int a3, .int a4, .int a5, .int a6], [.int (((I 155 (tn (a6 / 4))) >>> (((24 : Int32) - ((8 : Int32) * (a6 - a6 / 4 * 4))) &&& 31) : Int32).toInt8.toInt32), .int j0, .ref 154], sM Ln I L c s)) (fun j0 => (100, [.ref 148, .int a1, .int a2, .int a3, .int a4, .int a5, .int a6], [], sM Ln (dd_u I 154 (upd (I 154) (tn j0) ((((I 155 (tn (a6 / 4))) >>> (((24 : Int32) - ((8 : Int32) * (a6 - a6 / 4 * 4))) &&& 31) : Int32).toInt8.toInt32).toInt8.toInt32))) L c s)) (fun j0 => 0 ≤ j0 ∧ tn j0 < 400) ((I 148 9) + a6) (fun j0 hc h => dd_Rn.chk 0 (c := 0 ≤ j0 ∧ tn j0 < 400) (A := (100, [.ref 148, .int a1, .int a2, .int a3, .int a4, .int a5, .int a6], [], sM Ln (dd_u I 154 (upd (I 154) (tn j0) ((((I 155 (tn (a6 / 4))) >>> (((24 : Int32) - ((8 : Int32) * (a6 - a6 / 4 * 4))) &&& 31) : Int32).toInt8.toInt32).toInt8.toInt32))) L c s)) rfl hc h (by omega)) hc ?_
    refine dd_Rn.se (cf := (100, [.ref 148, .int a1, .int a2, .int a3, .int a4, .int a5, .int a6], [], sM Ln (dd_u I 154 (upd (I 154) (tn ((I 148 9) + a6)) ((((I 155 (tn (a6 / 4))) >>> (((24 : Int32) - ((8 : Int32) * (a6 - a6 / 4 * 4))) &&& 31) : Int32).toInt8.toInt32).toInt8.toInt32))) L c s)) ?_
    exact dd_Rn.go 2 (cf' := (60, [.ref 148, .int a1, .int a2, .int a3, .int a4, .int a5, .int (a6 + 1)], [], sM Ln (dd_u I 154 (upd (I 154) (tn ((I 148 9) + a6)) ((((I 155 (tn (a6 / 4))) >>> (((24 : Int32) - ((8 : Int32) * (a6 - a6 / 4 * 4))) &&& 31) : Int32).toInt8.toInt32).toInt8.toInt32))) L c s)) rfl h (by omega)

theorem w_X11_end_0 {Ln d c s : Nat} {I : Nat → Nat → Int32} {L : Nat → Nat → Int64} {Q : dd_O → Prop} {a1 : Int32} (hd : 28 ≤ d) (h : ((a1 < 0 → Q (none, .int 0, sM Ln (dd_u I 148 (upd (I 148) 0 0)) L c s)) ∧ (¬ (a1 < 0) → ((a1 ≤ I 148 9 → Q (none, .int 1, sM Ln (dd_u (dd_u I 148 (upd (I 148) 0 0)) 148 (upd (upd (I 148) 0 0) 9 a1)) L c s)) ∧ (¬ (a1 ≤ I 148 9) → Q (none, .int 0, sM Ln (dd_u I 148 (upd (I 148) 0 0)) L c s)))))) : dd_Ev d m_X11_end [.ref 148, .int a1] (sM Ln I L c s) Q := by
  obtain ⟨e, rfl⟩ : ∃ e, d = e + 16 := ⟨d - 16, by omega⟩
  show dd_Rn (e + 16) m_X11_end (0, [.ref 148, .int a1], [], sM Ln I L c s) Q
  refine dd_Rn.ite 4 (c := a1 < 0) (A := (17, [.ref 148, .int a1], [], sM Ln (dd_u I 148 (upd (I 148) 0 0)) L c s)) (B := (9, [.ref 148, .int a1], [], sM Ln (dd_u I 148 (upd (I 148) 0 0)) L c s)) rfl (fun hc => ?_) (fun hc => ?_) (by omega)
  · have h := h.1 hc
    exact dd_Rn.retK 1 (pc := 18) (ls := [.ref 148, .int a1]) (st := [.int 0]) (M := sM Ln (dd_u I 148 (upd (I 148) 0 0)) L c s) (o := (none, .int 0, sM Ln (dd_u I 148 (upd (I 148) 0 0)) L c s)) rfl rfl h (by omega)
  · have h := h.2 hc
    refine dd_Rn.ite 3 (c := a1 ≤ I 148 9) (A := (19, [.ref 148, .int a1], [], sM Ln (dd_u I 148 (upd (I 148) 0 0)) L c s)) (B := (17, [.ref 148, .int a1], [], sM Ln (dd_u I 148 (upd (I 148) 0 0)) L c s)) rfl (fun hc => ?_) (fun hc => ?_) (by omega)
    · have h := h.1 hc
      exact dd_Rn.retK 4 (pc := 25) (ls := [.ref 148, .int a1]) (st := [.int 1]) (M := sM Ln (dd_u (dd_u I 148 (upd (I 148) 0 0)) 148 (upd (upd (I 148) 0 0) 9 a1)) L c s) (o := (none, .int 1, sM Ln (dd_u (dd_u I 148 (upd (I 148) 0 0)) 148 (upd (upd (I 148) 0 0) 9 a1)) L c s)) rfl rfl h (by omega)
    · have h := h.2 hc
      exact dd_Rn.retK 1 (pc := 18) (ls := [.ref 148, .int a1]) (st := [.int 0]) (M := sM Ln (dd_u I 148 (upd (I 148) 0 0)) L c s) (o := (none, .int 0, sM Ln (dd_u I 148 (upd (I 148) 0 0)) L c s)) rfl rfl h (by omega)

theorem w_X11_isAt_0 {Ln d c s : Nat} {I : Nat → Nat → Int32} {L : Nat → Nat → Int64} {Q : dd_O → Prop} {a1 a2 : Int32} (hd : 28 ≤ d) (h : ((I 148 11 ≤ I 148 10 → Q (none, .int 0, sM Ln I L c s)) ∧ (¬ (I 148 11 ≤ I 148 10) → ((0 ≤ I 148 10 ∧ tn (I 148 10) < 400) ∧ ((I 154 (tn (I 148 10)) < a1 → Q (none, .int 0, sM Ln I L c s)) ∧ (¬ (I 154 (tn (I 148 10)) < a1) → ((0 ≤ I 148 10 ∧ tn (I 148 10) < 400) ∧ ((a2 < I 154 (tn (I 148 10)) → Q (none, .int 0, sM Ln I L c s)) ∧ (¬ (a2 < I 154 (tn (I 148 10))) → Q (none, .int 1, sM Ln I L c s)))))))))) : dd_Ev d m_X11_isAt [.ref 148, .int a1, .int a2] (sM Ln I L c s) Q := by
  obtain ⟨e, rfl⟩ : ∃ e, d = e + 16 := ⟨d - 16, by omega⟩
  show dd_Rn (e + 16) m_X11_isAt (0, [.ref 148, .int a1, .int a2], [], sM Ln I L c s) Q
  refine dd_Rn.ite 4 (c := I 148 11 ≤ I 148 10) (A := (41, [.ref 148, .int a1, .int a2], [], sM Ln I L c s)) (B := (11, [.ref 148, .int a1, .int a2], [], sM Ln I L c s)) rfl (fun hc => ?_) (fun hc => ?_) (by omega)
  · have h := h.1 hc
    exact dd_Rn.retK 1 (pc := 42) (ls := [.ref 148, .int a1, .int a2]) (st := [.int 0]) (M := sM Ln I L c s) (o := (none, .int 0, sM Ln I L c s)) rfl rfl h (by omega)
  · have h := h.2 hc
    obtain ⟨hc, h⟩ := h
    refine dd_Rn.go 4 (cf' := (19, [.ref 148, .int a1, .int a2], [.int (I 148 10), .ref 154], sM Ln I L c s)) rfl ?_ (by omega)
    refine dd_Rn.ci (fun j0 => (19, [.ref 148, .int a1, .int a2], [.int j0, .ref 154], sM Ln I L c s)) (fun j0 => (20, [.ref 148, .int a1, .int a2], [.int (I 154 (tn j0))], sM Ln I L c s)) (fun j0 => 0 ≤ j0 ∧ tn j0 < 400) (I 148 10) (fun j0 hc h => dd_Rn.chk 0 (c := 0 ≤ j0 ∧ tn j0 < 400) (A := (20, [.ref 148, .int a1, .int a2], [.int (I 154 (tn j0))], sM Ln I L c s)) rfl hc h (by omega)) hc ?_
    refine dd_Rn.se (cf := (20, [.ref 148, .int a1, .int a2], [.int (I 154 (tn (I 148 10)))], sM Ln I L c s)) ?_
    refine dd_Rn.ite 1 (c := I 154 (tn (I 148 10)) < a1) (A := (41, [.ref 148, .int a1, .int a2], [], sM Ln I L c s)) (B := (24, [.ref 148, .int a1, .int a2], [], sM Ln I L c s)) rfl (fun hc => ?_) (fun hc => ?_) (by omega)
    · have h := h.1 hc
      exact dd_Rn.retK 1 (pc := 42) (ls := [.ref 148, .int a1, .int a2]) (st := [.int 0]) (M := sM Ln I L c s) (o := (none, .int 0, sM Ln I L c s)) rfl rfl h (by omega)
    · have h := h.2 hc
      obtain ⟨hc, h⟩ := h
      refine dd_Rn.go 4 (cf' := (32, [.ref 148, .int a1, .int a2], [.int (I 148 10), .ref 154], sM Ln I L c s)) rfl ?_ (by omega)
      refine dd_Rn.ci (fun j0 => (32, [.ref 148, .int a1, .int a2], [.int j0, .ref 154], sM Ln I L c s)) (fun j0 => (33, [.ref 148, .int a1, .int a2], [.int (I 154 (tn j0))], sM Ln I L c s)) (fun j0 => 0 ≤ j0 ∧ tn j0 < 400) (I 148 10) (fun j0 hc h => dd_Rn.chk 0 (c := 0 ≤ j0 ∧ tn j0 < 400) (A := (33, [.ref 148, .int a1, .int a2], [.int (I 154 (tn j0))], sM Ln I L c s)) rfl hc h (by omega)) hc ?_
      refine dd_Rn.se (cf := (33, [.ref 148, .int a1, .int a2], [.int (I 154 (tn (I 148 10)))], sM Ln I L c s)) ?_
      refine dd_Rn.ite 1 (c := a2 < I 154 (tn (I 148 10))) (A := (41, [.ref 148, .int a1, .int a2], [], sM Ln I L c s)) (B := (37, [.ref 148, .int a1, .int a2], [], sM Ln I L c s)) rfl (fun hc => ?_) (fun hc => ?_) (by omega)
      · have h := h.1 hc
        exact dd_Rn.retK 1 (pc := 42) (ls := [.ref 148, .int a1, .int a2]) (st := [.int 0]) (M := sM Ln I L c s) (o := (none, .int 0, sM Ln I L c s)) rfl rfl h (by omega)
      · have h := h.2 hc
        exact dd_Rn.retK 2 (pc := 42) (ls := [.ref 148, .int a1, .int a2]) (st := [.int 1]) (M := sM Ln I L c s) (o := (none, .int 1, sM Ln I L c s)) rfl rfl h (by omega)

theorem w_X11_blanks_0 {Ln d c s : Nat} {I : Nat → Nat → Int32} {L : Nat → Nat → Int64} {Q : dd_O → Prop} (hd : 28 ≤ d) (h : dd_Rn d m_X11_blanks (0, [.ref 148], [], sM Ln I L c s) Q) : dd_Ev d m_X11_blanks [.ref 148] (sM Ln I L c s) Q := by
  obtain ⟨e, rfl⟩ : ∃ e, d = e + 16 := ⟨d - 16, by omega⟩
  show dd_Rn (e + 16) m_X11_blanks (0, [.ref 148], [], sM Ln I L c s) Q
  exact dd_Rn.go 0 (cf' := (0, [.ref 148], [], sM Ln I L c s)) rfl h (by omega)

theorem w_X11_letters_0 {Ln d c s : Nat} {I : Nat → Nat → Int32} {L : Nat → Nat → Int64} {Q : dd_O → Prop} (hd : 28 ≤ d) (h : dd_Ev (d - 1) m_X11_blanks [.ref 148] (sM Ln I L c s) (dd_RV Ln c s (fun I1 L1 => dd_Rn d m_X11_letters (4, [.ref 148], [], sM Ln I1 L1 c s) Q))) : dd_Ev d m_X11_letters [.ref 148] (sM Ln I L c s) Q := by
  obtain ⟨e, rfl⟩ : ∃ e, d = e + 16 := ⟨d - 16, by omega⟩
  show dd_Rn (e + 16) m_X11_letters (0, [.ref 148], [], sM Ln I L c s) Q
  refine dd_Rn.cV 1 (pc := 1) (ls := [.ref 148]) (st := [.ref 148]) (x := m_X11_blanks) (as := [.ref 148]) (rest := []) rfl rfl rfl rfl h ?_
  intro I1 L1 h
  show dd_Rn (e + 16) m_X11_letters (4, [.ref 148], [], sM Ln I1 L1 c s) _
  exact dd_Rn.go 0 (cf' := (4, [.ref 148], [], sM Ln I1 L1 c s)) rfl h (by omega)

theorem w_X11_letters_4 {Ln d c s : Nat} {I : Nat → Nat → Int32} {L : Nat → Nat → Int64} {Q : dd_O → Prop} (hd : 28 ≤ d) (h : dd_Ev (d - 1) m_X11_isAt [.ref 148, .int 97, .int 122] (sM Ln I L c s) (dd_RI Ln c s (fun x1 I1 L1 => ((x1 = 0 → Q (none, .null, sM Ln I1 L1 c s)) ∧ (¬ (x1 = 0) → dd_Rn d m_X11_letters (4, [.ref 148], [], sM Ln (dd_u I1 148 (upd (I1 148) 10 ((I1 148 10) + 1))) L1 c s) Q))))) : dd_Rn d m_X11_letters (4, [.ref 148], [], sM Ln I L c s) Q := by
  obtain ⟨e, rfl⟩ : ∃ e, d = e + 16 := ⟨d - 16, by omega⟩
  refine dd_Rn.cI 3 (pc := 9) (ls := [.ref 148]) (st := [.int 122, .int 97, .ref 148]) (x := m_X11_isAt) (as := [.ref 148, .int 97, .int 122]) (rest := []) rfl rfl rfl rfl h ?_
  intro x1 I1 L1 h
  show dd_Rn (e + 16) m_X11_letters (12, [.ref 148], [.int x1], sM Ln I1 L1 c s) _
  refine dd_Rn.ite 0 (c := x1 = 0) (A := (28, [.ref 148], [], sM Ln I1 L1 c s)) (B := (15, [.ref 148], [], sM Ln I1 L1 c s)) rfl (fun hc => ?_) (fun hc => ?_) (by omega)
  · have h := h.1 hc
    exact dd_Rn.retK 0 (pc := 28) (ls := [.ref 148]) (st := []) (M := sM Ln I1 L1 c s) (o := (none, .null, sM Ln I1 L1 c s)) rfl rfl h (by omega)
  · have h := h.2 hc
    exact dd_Rn.go 7 (cf' := (4, [.ref 148], [], sM Ln (dd_u I1 148 (upd (I1 148) 10 ((I1 148 10) + 1))) L1 c s)) rfl h (by omega)

theorem w_X11_isWord_0 {Ln d c s : Nat} {I : Nat → Nat → Int32} {L : Nat → Nat → Int64} {Q : dd_O → Prop} {w : Nat} (hd : 28 ≤ d) (hw : w < 71) (h : dd_Ev (d - 1) m_J0_length_8abf5 [.ref (1000000 + w)] (sM Ln I L c s) (dd_RI Ln c s (fun x1 I1 L1 => (((I 148 10) - (I 148 12) = x1 → dd_Rn d m_X11_isWord (24, [.ref 148, .ref (1000000 + w), .int 1, .int 0], [], sM Ln I1 L1 c s) Q) ∧ (¬ ((I 148 10) - (I 148 12) = x1) → dd_Rn d m_X11_isWord (24, [.ref 148, .ref (1000000 + w), .int 0, .int 0], [], sM Ln I1 L1 c s) Q))))) : dd_Ev d m_X11_isWord [.ref 148, .ref (1000000 + w)] (sM Ln I L c s) Q := by
  obtain ⟨e, rfl⟩ : ∃ e, d = e + 16 := ⟨d - 16, by omega⟩
  show dd_Rn (e + 16) m_X11_isWord (0, [.ref 148, .ref (1000000 + w), .null, .null], [], sM Ln I L c s) Q
  refine dd_Rn.cI 6 (pc := 10) (ls := [.ref 148, .ref (1000000 + w), .null, .null]) (st := [.ref (1000000 + w), .int ((I 148 10) - (I 148 12))]) (x := m_J0_length_8abf5) (as := [.ref (1000000 + w)]) (rest := [.int ((I 148 10) - (I 148 12))]) rfl rfl rfl (dd_clS hw rfl rfl rfl rfl rfl rfl) h ?_
  intro x1 I1 L1 h
  show dd_Rn (e + 16) m_X11_isWord (13, [.ref 148, .ref (1000000 + w), .null, .null], [.int x1, .int ((I 148 10) - (I 148 12))], sM Ln I1 L1 c s) _
  refine dd_Rn.ite 0 (c := (I 148 10) - (I 148 12) = x1) (A := (16, [.ref 148, .ref (1000000 + w), .null, .null], [], sM Ln I1 L1 c s)) (B := (20, [.ref 148, .ref (1000000 + w), .null, .null], [], sM Ln I1 L1 c s)) rfl (fun hc => ?_) (fun hc => ?_) (by omega)
  · have h := h.1 hc
    exact dd_Rn.go 5 (cf' := (24, [.ref 148, .ref (1000000 + w), .int 1, .int 0], [], sM Ln I1 L1 c s)) rfl h (by omega)
  · have h := h.2 hc
    exact dd_Rn.go 4 (cf' := (24, [.ref 148, .ref (1000000 + w), .int 0, .int 0], [], sM Ln I1 L1 c s)) rfl h (by omega)

theorem w_X11_isWord_24 {Ln d c s : Nat} {I : Nat → Nat → Int32} {L : Nat → Nat → Int64} {Q : dd_O → Prop} {w : Nat} {a2 a3 : Int32} (hd : 28 ≤ d) (hw : w < 71) (h : ((a2 = 0 → ((a2 = 0 ∨ a2 = 1) ∧ Q (none, .int a2, sM Ln I L c s))) ∧ (¬ (a2 = 0) → dd_Ev (d - 1) m_J0_length_8abf5 [.ref (1000000 + w)] (sM Ln I L c s) (dd_RI Ln c s (fun x1 I1 L1 => ((x1 ≤ a3 → ((a2 = 0 ∨ a2 = 1) ∧ Q (none, .int a2, sM Ln I1 L1 c s))) ∧ (¬ (x1 ≤ a3) → ((0 ≤ (I1 148 12) + a3 ∧ tn ((I1 148 12) + a3) < 400) ∧ dd_Ev (d - 1) m_J0_charAt_5068e [.ref (1000000 + w), .int a3] (sM Ln I1 L1 c s) (dd_RI Ln c s (fun x2 I2 L2 => ((I1 154 (tn ((I1 148 12) + a3)) = x2 → dd_Rn d m_X11_isWord (24, [.ref 148, .ref (1000000 + w), .int 1, .int (a3 + 1)], [], sM Ln I2 L2 c s) Q) ∧ (¬ (I1 154 (tn ((I1 148 12) + a3)) = x2) → dd_Rn d m_X11_isWord (24, [.ref 148, .ref (1000000 + w), .int 0, .int (a3 + 1)], [], sM Ln I2 L2 c s) Q)))))))))))) : dd_Rn d m_X11_isWord (24, [.ref 148, .ref (1000000 + w), .int a2, .int a3], [], sM Ln I L c s) Q := by
  obtain ⟨e, rfl⟩ : ∃ e, d = e + 16 := ⟨d - 16, by omega⟩
  refine dd_Rn.ite 1 (c := a2 = 0) (A := (67, [.ref 148, .ref (1000000 + w), .int a2, .int a3], [], sM Ln I L c s)) (B := (28, [.ref 148, .ref (1000000 + w), .int a2, .int a3], [], sM Ln I L c s)) rfl (fun hc => ?_) (fun hc => ?_) (by omega)
  · have h := h.1 hc
    obtain ⟨hc, h⟩ := h
    exact dd_Rn.retB 1 (cf' := (68, [.ref 148, .ref (1000000 + w), .int a2, .int a3], [.int a2], sM Ln I L c s)) (v := a2) rfl rfl hc h (by omega)
  · have h := h.2 hc
    refine dd_Rn.cI 2 (pc := 30) (ls := [.ref 148, .ref (1000000 + w), .int a2, .int a3]) (st := [.ref (1000000 + w), .int a3]) (x := m_J0_length_8abf5) (as := [.ref (1000000 + w)]) (rest := [.int a3]) rfl rfl rfl (dd_clS hw rfl rfl rfl rfl rfl rfl) h ?_
    intro x1 I1 L1 h
    show dd_Rn (e + 16) m_X11_isWord (33, [.ref 148, .ref (1000000 + w), .int a2, .int a3], [.int x1, .int a3], sM Ln I1 L1 c s) _
    refine dd_Rn.ite 0 (c := x1 ≤ a3) (A := (67, [.ref 148, .ref (1000000 + w), .int a2, .int a3], [], sM Ln I1 L1 c s)) (B := (36, [.ref 148, .ref (1000000 + w), .int a2, .int a3], [], sM Ln I1 L1 c s)) rfl (fun hc => ?_) (fun hc => ?_) (by omega)
    · have h := h.1 hc
      obtain ⟨hc, h⟩ := h
      exact dd_Rn.retB 1 (cf' := (68, [.ref 148, .ref (1000000 + w), .int a2, .int a3], [.int a2], sM Ln I1 L1 c s)) (v := a2) rfl rfl hc h (by omega)
    · have h := h.2 hc
      obtain ⟨hc, h⟩ := h
      refine dd_Rn.go 6 (cf' := (46, [.ref 148, .ref (1000000 + w), .int a2, .int a3], [.int ((I1 148 12) + a3), .ref 154], sM Ln I1 L1 c s)) rfl ?_ (by omega)
      refine dd_Rn.ci (fun j0 => (46, [.ref 148, .ref (1000000 + w), .int a2, .int a3], [.int j0, .ref 154], sM Ln I1 L1 c s)) (fun j0 => (47, [.ref 148, .ref (1000000 + w), .int a2, .int a3], [.int (I1 154 (tn j0))], sM Ln I1 L1 c s)) (fun j0 => 0 ≤ j0 ∧ tn j0 < 400) ((I1 148 12) + a3) (fun j0 hc h => dd_Rn.chk 0 (c := 0 ≤ j0 ∧ tn j0 < 400) (A := (47, [.ref 148, .ref (1000000 + w), .int a2, .int a3], [.int (I1 154 (tn j0))], sM Ln I1 L1 c s)) rfl hc h (by omega)) hc ?_
      refine dd_Rn.se (cf := (47, [.ref 148, .ref (1000000 + w), .int a2, .int a3], [.int (I1 154 (tn ((I1 148 12) + a3)))], sM Ln I1 L1 c s)) ?_
      refine dd_Rn.cI 2 (pc := 49) (ls := [.ref 148, .ref (1000000 + w), .int a2, .int a3]) (st := [.int a3, .ref (1000000 + w), .int (I1 154 (tn ((I1 148 12) + a3)))]) (x := m_J0_charAt_5068e) (as := [.ref (1000000 + w), .int a3]) (rest := [.int (I1 154 (tn ((I1 148 12) + a3)))]) rfl rfl rfl (dd_clS hw rfl rfl rfl rfl rfl rfl) h ?_
      intro x2 I2 L2 h
      show dd_Rn (e + 16) m_X11_isWord (52, [.ref 148, .ref (1000000 + w), .int a2, .int a3], [.int x2, .int (I1 154 (tn ((I1 148 12) + a3)))], sM Ln I2 L2 c s) _
      refine dd_Rn.ite 0 (c := I1 154 (tn ((I1 148 12) + a3)) = x2) (A := (55, [.ref 148, .ref (1000000 + w), .int a2, .int a3], [], sM Ln I2 L2 c s)) (B := (59, [.ref 148, .ref (1000000 + w), .int a2, .int a3], [], sM Ln I2 L2 c s)) rfl (fun hc => ?_) (fun hc => ?_) (by omega)
      · have h := h.1 hc
        exact dd_Rn.go 5 (cf' := (24, [.ref 148, .ref (1000000 + w), .int 1, .int (a3 + 1)], [], sM Ln I2 L2 c s)) rfl h (by omega)
      · have h := h.2 hc
        exact dd_Rn.go 4 (cf' := (24, [.ref 148, .ref (1000000 + w), .int 0, .int (a3 + 1)], [], sM Ln I2 L2 c s)) rfl h (by omega)

theorem w_X11_passes_0 {Ln d c s : Nat} {I : Nat → Nat → Int32} {L : Nat → Nat → Int64} {Q : dd_O → Prop} {w : Nat} (hd : 28 ≤ d) (hw : w < 71) (h : dd_Ev (d - 1) m_X11_letters [.ref 148] (sM Ln I L c s) (dd_RV Ln c s (fun I1 L1 => dd_Ev (d - 1) m_X11_isWord [.ref 148, .ref (1000000 + w)] (sM Ln I1 L1 c s) (dd_RI Ln c s (fun x2 I2 L2 => ((x2 = 0 → Q (none, .int 0, sM Ln (dd_u I2 148 (upd (I2 148) 10 (I2 148 12))) L2 c s)) ∧ (¬ (x2 = 0) → Q (none, .int 1, sM Ln I2 L2 c s)))))))) : dd_Ev d m_X11_passes [.ref 148, .ref (1000000 + w)] (sM Ln I L c s) Q := by
  obtain ⟨e, rfl⟩ : ∃ e, d = e + 16 := ⟨d - 16, by omega⟩
  show dd_Rn (e + 16) m_X11_passes (0, [.ref 148, .ref (1000000 + w)], [], sM Ln I L c s) Q
  refine dd_Rn.cV 1 (pc := 1) (ls := [.ref 148, .ref (1000000 + w)]) (st := [.ref 148]) (x := m_X11_letters) (as := [.ref 148]) (rest := []) rfl rfl rfl rfl h ?_
  intro I1 L1 h
  show dd_Rn (e + 16) m_X11_passes (4, [.ref 148, .ref (1000000 + w)], [], sM Ln I1 L1 c s) _
  refine dd_Rn.cI 2 (pc := 6) (ls := [.ref 148, .ref (1000000 + w)]) (st := [.ref (1000000 + w), .ref 148]) (x := m_X11_isWord) (as := [.ref 148, .ref (1000000 + w)]) (rest := []) rfl rfl rfl rfl h ?_
  intro x2 I2 L2 h
  show dd_Rn (e + 16) m_X11_passes (9, [.ref 148, .ref (1000000 + w)], [.int x2], sM Ln I2 L2 c s) _
  refine dd_Rn.ite 0 (c := x2 = 0) (A := (14, [.ref 148, .ref (1000000 + w)], [], sM Ln I2 L2 c s)) (B := (12, [.ref 148, .ref (1000000 + w)], [], sM Ln I2 L2 c s)) rfl (fun hc => ?_) (fun hc => ?_) (by omega)
  · have h := h.1 hc
    exact dd_Rn.retK 5 (pc := 23) (ls := [.ref 148, .ref (1000000 + w)]) (st := [.int 0]) (M := sM Ln (dd_u I2 148 (upd (I2 148) 10 (I2 148 12))) L2 c s) (o := (none, .int 0, sM Ln (dd_u I2 148 (upd (I2 148) 10 (I2 148 12))) L2 c s)) rfl rfl h (by omega)
  · have h := h.2 hc
    exact dd_Rn.retK 1 (pc := 13) (ls := [.ref 148, .ref (1000000 + w)]) (st := [.int 1]) (M := sM Ln I2 L2 c s) (o := (none, .int 1, sM Ln I2 L2 c s)) rfl rfl h (by omega)

theorem w_X11_sign_0 {Ln d c s : Nat} {I : Nat → Nat → Int32} {L : Nat → Nat → Int64} {Q : dd_O → Prop} {a1 : Int32} (hd : 28 ≤ d) (h : dd_Ev (d - 1) m_X11_blanks [.ref 148] (sM Ln I L c s) (dd_RV Ln c s (fun I1 L1 => dd_Ev (d - 1) m_X11_isAt [.ref 148, .int a1, .int a1] (sM Ln I1 L1 c s) (dd_RI Ln c s (fun x2 I2 L2 => ((x2 = 0 → Q (none, .int 0, sM Ln I2 L2 c s)) ∧ (¬ (x2 = 0) → Q (none, .int 1, sM Ln (dd_u I2 148 (upd (I2 148) 10 ((I2 148 10) + 1))) L2 c s)))))))) : dd_Ev d m_X11_sign [.ref 148, .int a1] (sM Ln I L c s) Q := by
  obtain ⟨e, rfl⟩ : ∃ e, d = e + 16 := ⟨d - 16, by omega⟩
  show dd_Rn (e + 16) m_X11_sign (0, [.ref 148, .int a1], [], sM Ln I L c s) Q
  refine dd_Rn.cV 1 (pc := 1) (ls := [.ref 148, .int a1]) (st := [.ref 148]) (x := m_X11_blanks) (as := [.ref 148]) (rest := []) rfl rfl rfl rfl h ?_
  intro I1 L1 h
  show dd_Rn (e + 16) m_X11_sign (4, [.ref 148, .int a1], [], sM Ln I1 L1 c s) _
  refine dd_Rn.cI 3 (pc := 7) (ls := [.ref 148, .int a1]) (st := [.int a1, .int a1, .ref 148]) (x := m_X11_isAt) (as := [.ref 148, .int a1, .int a1]) (rest := []) rfl rfl rfl rfl h ?_
  intro x2 I2 L2 h
  show dd_Rn (e + 16) m_X11_sign (10, [.ref 148, .int a1], [.int x2], sM Ln I2 L2 c s) _
  refine dd_Rn.ite 0 (c := x2 = 0) (A := (13, [.ref 148, .int a1], [], sM Ln I2 L2 c s)) (B := (15, [.ref 148, .int a1], [], sM Ln I2 L2 c s)) rfl (fun hc => ?_) (fun hc => ?_) (by omega)
  · have h := h.1 hc
    exact dd_Rn.retK 1 (pc := 14) (ls := [.ref 148, .int a1]) (st := [.int 0]) (M := sM Ln I2 L2 c s) (o := (none, .int 0, sM Ln I2 L2 c s)) rfl rfl h (by omega)
  · have h := h.2 hc
    exact dd_Rn.retK 7 (pc := 26) (ls := [.ref 148, .int a1]) (st := [.int 1]) (M := sM Ln (dd_u I2 148 (upd (I2 148) 10 ((I2 148 10) + 1))) L2 c s) (o := (none, .int 1, sM Ln (dd_u I2 148 (upd (I2 148) 10 ((I2 148 10) + 1))) L2 c s)) rfl rfl h (by omega)

theorem w_X11_number_0 {Ln d c s : Nat} {I : Nat → Nat → Int32} {L : Nat → Nat → Int64} {Q : dd_O → Prop} {a1 a2 : Int32} (hd : 28 ≤ d) (h : dd_Ev (d - 1) m_X11_blanks [.ref 148] (sM Ln I L c s) (dd_RV Ln c s (fun I1 L1 => dd_Rn d m_X11_number (6, [.ref 148, .int a1, .int a2, .int 0], [], sM Ln I1 L1 c s) Q))) : dd_Ev d m_X11_number [.ref 148, .int a1, .int a2] (sM Ln I L c s) Q := by
  obtain ⟨e, rfl⟩ : ∃ e, d = e + 16 := ⟨d - 16, by omega⟩
  show dd_Rn (e + 16) m_X11_number (0, [.ref 148, .int a1, .int a2, .null], [], sM Ln I L c s) Q
  refine dd_Rn.cV 1 (pc := 1) (ls := [.ref 148, .int a1, .int a2, .null]) (st := [.ref 148]) (x := m_X11_blanks) (as := [.ref 148]) (rest := []) rfl rfl rfl rfl h ?_
  intro I1 L1 h
  show dd_Rn (e + 16) m_X11_number (4, [.ref 148, .int a1, .int a2, .null], [], sM Ln I1 L1 c s) _
  exact dd_Rn.go 2 (cf' := (6, [.ref 148, .int a1, .int a2, .int 0], [], sM Ln I1 L1 c s)) rfl h (by omega)

theorem w_X11_number_6 {Ln d c s : Nat} {I : Nat → Nat → Int32} {L : Nat → Nat → Int64} {Q : dd_O → Prop} {a1 a2 a3 : Int32} (hd : 28 ≤ d) (h : dd_Ev (d - 1) m_X11_isAt [.ref 148, .int 48, .int 57] (sM Ln I L c s) (dd_RI Ln c s (fun x1 I1 L1 => ((x1 = 0 → ((I1 148 10 = I1 148 12 → Q (none, .int (-1), sM Ln I1 L1 c s)) ∧ (¬ (I1 148 10 = I1 148 12) → (((3 : Int32) < (I1 148 10) - (I1 148 12) → Q (none, .int (-1), sM Ln I1 L1 c s)) ∧ (¬ ((3 : Int32) < (I1 148 10) - (I1 148 12)) → ((a3 < a1 → Q (none, .int (-1), sM Ln I1 L1 c s)) ∧ (¬ (a3 < a1) → ((a3 ≤ a2 → Q (none, .int a3, sM Ln I1 L1 c s)) ∧ (¬ (a3 ≤ a2) → Q (none, .int (-1), sM Ln I1 L1 c s)))))))))) ∧ (¬ (x1 = 0) → (((3 : Int32) ≤ (I1 148 10) - (I1 148 12) → dd_Rn d m_X11_number (6, [.ref 148, .int a1, .int a2, .int a3], [], sM Ln (dd_u I1 148 (upd (I1 148) 10 ((I1 148 10) + 1))) L1 c s) Q) ∧ (¬ ((3 : Int32) ≤ (I1 148 10) - (I1 148 12)) → ((0 ≤ I1 148 10 ∧ tn (I1 148 10) < 400) ∧ dd_Rn d m_X11_number (6, [.ref 148, .int a1, .int a2, .int ((((10 : Int32) * a3) + (I1 154 (tn (I1 148 10)))) - 48)], [], sM Ln (dd_u I1 148 (upd (I1 148) 10 ((I1 148 10) + 1))) L1 c s) Q)))))))) : dd_Rn d m_X11_number (6, [.ref 148, .int a1, .int a2, .int a3], [], sM Ln I L c s) Q := by
  obtain ⟨e, rfl⟩ : ∃ e, d = e + 16 := ⟨d - 16, by omega⟩
  refine dd_Rn.cI 3 (pc := 11) (ls := [.ref 148, .int a1, .int a2, .int a3]) (st := [.int 57, .int 48, .ref 148]) (x := m_X11_isAt) (as := [.ref 148, .int 48, .int 57]) (rest := []) rfl rfl rfl rfl h ?_
  intro x1 I1 L1 h
  show dd_Rn (e + 16) m_X11_number (14, [.ref 148, .int a1, .int a2, .int a3], [.int x1], sM Ln I1 L1 c s) _
  refine dd_Rn.ite 0 (c := x1 = 0) (A := (65, [.ref 148, .int a1, .int a2, .int a3], [], sM Ln I1 L1 c s)) (B := (17, [.ref 148, .int a1, .int a2, .int a3], [], sM Ln I1 L1 c s)) rfl (fun hc => ?_) (fun hc => ?_) (by omega)
  · have h := h.1 hc
    refine dd_Rn.ite 4 (c := I1 148 10 = I1 148 12) (A := (99, [.ref 148, .int a1, .int a2, .int a3], [], sM Ln I1 L1 c s)) (B := (76, [.ref 148, .int a1, .int a2, .int a3], [], sM Ln I1 L1 c s)) rfl (fun hc => ?_) (fun hc => ?_) (by omega)
    · have h := h.1 hc
      exact dd_Rn.retK 2 (pc := 104) (ls := [.ref 148, .int a1, .int a2, .int a3]) (st := [.int (-1)]) (M := sM Ln I1 L1 c s) (o := (none, .int (-1), sM Ln I1 L1 c s)) rfl rfl h (by omega)
    · have h := h.2 hc
      refine dd_Rn.ite 6 (c := (3 : Int32) < (I1 148 10) - (I1 148 12)) (A := (99, [.ref 148, .int a1, .int a2, .int a3], [], sM Ln I1 L1 c s)) (B := (89, [.ref 148, .int a1, .int a2, .int a3], [], sM Ln I1 L1 c s)) rfl (fun hc => ?_) (fun hc => ?_) (by omega)
      · have h := h.1 hc
        exact dd_Rn.retK 2 (pc := 104) (ls := [.ref 148, .int a1, .int a2, .int a3]) (st := [.int (-1)]) (M := sM Ln I1 L1 c s) (o := (none, .int (-1), sM Ln I1 L1 c s)) rfl rfl h (by omega)
      · have h := h.2 hc
        refine dd_Rn.ite 2 (c := a3 < a1) (A := (99, [.ref 148, .int a1, .int a2, .int a3], [], sM Ln I1 L1 c s)) (B := (94, [.ref 148, .int a1, .int a2, .int a3], [], sM Ln I1 L1 c s)) rfl (fun hc => ?_) (fun hc => ?_) (by omega)
        · have h := h.1 hc
          exact dd_Rn.retK 2 (pc := 104) (ls := [.ref 148, .int a1, .int a2, .int a3]) (st := [.int (-1)]) (M := sM Ln I1 L1 c s) (o := (none, .int (-1), sM Ln I1 L1 c s)) rfl rfl h (by omega)
        · have h := h.2 hc
          refine dd_Rn.ite 2 (c := a3 ≤ a2) (A := (103, [.ref 148, .int a1, .int a2, .int a3], [], sM Ln I1 L1 c s)) (B := (99, [.ref 148, .int a1, .int a2, .int a3], [], sM Ln I1 L1 c s)) rfl (fun hc => ?_) (fun hc => ?_) (by omega)
          · have h := h.1 hc
            exact dd_Rn.retK 1 (pc := 104) (ls := [.ref 148, .int a1, .int a2, .int a3]) (st := [.int a3]) (M := sM Ln I1 L1 c s) (o := (none, .int a3, sM Ln I1 L1 c s)) rfl rfl h (by omega)
          · have h := h.2 hc
            exact dd_Rn.retK 2 (pc := 104) (ls := [.ref 148, .int a1, .int a2, .int a3]) (st := [.int (-1)]) (M := sM Ln I1 L1 c s) (o := (none, .int (-1), sM Ln I1 L1 c s)) rfl rfl h (by omega)
  · have h := h.2 hc
    refine dd_Rn.ite 6 (c := (3 : Int32) ≤ (I1 148 10) - (I1 148 12)) (A := (50, [.ref 148, .int a1, .int a2, .int a3], [], sM Ln I1 L1 c s)) (B := (30, [.ref 148, .int a1, .int a2, .int a3], [], sM Ln I1 L1 c s)) rfl (fun hc => ?_) (fun hc => ?_) (by omega)
    · have h := h.1 hc
      exact dd_Rn.go 9 (cf' := (6, [.ref 148, .int a1, .int a2, .int a3], [], sM Ln (dd_u I1 148 (upd (I1 148) 10 ((I1 148 10) + 1))) L1 c s)) rfl h (by omega)
    · have h := h.2 hc
      obtain ⟨hc, h⟩ := h
      refine dd_Rn.go 7 (cf' := (42, [.ref 148, .int a1, .int a2, .int a3], [.int (I1 148 10), .ref 154, .int ((10 : Int32) * a3)], sM Ln I1 L1 c s)) rfl ?_ (by omega)
      refine dd_Rn.ci (fun j0 => (42, [.ref 148, .int a1, .int a2, .int a3], [.int j0, .ref 154, .int ((10 : Int32) * a3)], sM Ln I1 L1 c s)) (fun j0 => (43, [.ref 148, .int a1, .int a2, .int a3], [.int (I1 154 (tn j0)), .int ((10 : Int32) * a3)], sM Ln I1 L1 c s)) (fun j0 => 0 ≤ j0 ∧ tn j0 < 400) (I1 148 10) (fun j0 hc h => dd_Rn.chk 0 (c := 0 ≤ j0 ∧ tn j0 < 400) (A := (43, [.ref 148, .int a1, .int a2, .int a3], [.int (I1 154 (tn j0)), .int ((10 : Int32) * a3)], sM Ln I1 L1 c s)) rfl hc h (by omega)) hc ?_
      refine dd_Rn.se (cf := (43, [.ref 148, .int a1, .int a2, .int a3], [.int (I1 154 (tn (I1 148 10))), .int ((10 : Int32) * a3)], sM Ln I1 L1 c s)) ?_
      exact dd_Rn.go 12 (cf' := (6, [.ref 148, .int a1, .int a2, .int ((((10 : Int32) * a3) + (I1 154 (tn (I1 148 10)))) - 48)], [], sM Ln (dd_u I1 148 (upd (I1 148) 10 ((I1 148 10) + 1))) L1 c s)) rfl h (by omega)

theorem w_X11_after_0 {Ln d c s : Nat} {I : Nat → Nat → Int32} {L : Nat → Nat → Int64} {Q : dd_O → Prop} {w : Nat} {a2 a3 : Int32} (hd : 28 ≤ d) (hw : w < 71) (h : dd_Ev (d - 1) m_X11_letters [.ref 148] (sM Ln I L c s) (dd_RV Ln c s (fun I1 L1 => dd_Ev (d - 1) m_X11_isWord [.ref 148, .ref (1000000 + w)] (sM Ln I1 L1 c s) (dd_RI Ln c s (fun x2 I2 L2 => ((x2 = 0 → Q (none, .int (-1), sM Ln I2 L2 c s)) ∧ (¬ (x2 = 0) → dd_Ev (d - 1) m_X11_number [.ref 148, .int a2, .int a3] (sM Ln I2 L2 c s) (dd_RI Ln c s (fun x3 I3 L3 => Q (none, .int x3, sM Ln I3 L3 c s)))))))))) : dd_Ev d m_X11_after [.ref 148, .ref (1000000 + w), .int a2, .int a3] (sM Ln I L c s) Q := by
  obtain ⟨e, rfl⟩ : ∃ e, d = e + 16 := ⟨d - 16, by omega⟩
  show dd_Rn (e + 16) m_X11_after (0, [.ref 148, .ref (1000000 + w), .int a2, .int a3], [], sM Ln I L c s) Q
  refine dd_Rn.cV 1 (pc := 1) (ls := [.ref 148, .ref (1000000 + w), .int a2, .int a3]) (st := [.ref 148]) (x := m_X11_letters) (as := [.ref 148]) (rest := []) rfl rfl rfl rfl h ?_
  intro I1 L1 h
  show dd_Rn (e + 16) m_X11_after (4, [.ref 148, .ref (1000000 + w), .int a2, .int a3], [], sM Ln I1 L1 c s) _
  refine dd_Rn.cI 2 (pc := 6) (ls := [.ref 148, .ref (1000000 + w), .int a2, .int a3]) (st := [.ref (1000000 + w), .ref 148]) (x := m_X11_isWord) (as := [.ref 148, .ref (1000000 + w)]) (rest := []) rfl rfl rfl rfl h ?_
  intro x2 I2 L2 h
  show dd_Rn (e + 16) m_X11_after (9, [.ref 148, .ref (1000000 + w), .int a2, .int a3], [.int x2], sM Ln I2 L2 c s) _
  refine dd_Rn.ite 0 (c := x2 = 0) (A := (21, [.ref 148, .ref (1000000 + w), .int a2, .int a3], [], sM Ln I2 L2 c s)) (B := (12, [.ref 148, .ref (1000000 + w), .int a2, .int a3], [], sM Ln I2 L2 c s)) rfl (fun hc => ?_) (fun hc => ?_) (by omega)
  · have h := h.1 hc
    exact dd_Rn.retK 1 (pc := 22) (ls := [.ref 148, .ref (1000000 + w), .int a2, .int a3]) (st := [.int (-1)]) (M := sM Ln I2 L2 c s) (o := (none, .int (-1), sM Ln I2 L2 c s)) rfl rfl h (by omega)
  · have h := h.2 hc
    refine dd_Rn.cI 3 (pc := 15) (ls := [.ref 148, .ref (1000000 + w), .int a2, .int a3]) (st := [.int a3, .int a2, .ref 148]) (x := m_X11_number) (as := [.ref 148, .int a2, .int a3]) (rest := []) rfl rfl rfl rfl h ?_
    intro x3 I3 L3 h
    show dd_Rn (e + 16) m_X11_after (18, [.ref 148, .ref (1000000 + w), .int a2, .int a3], [.int x3], sM Ln I3 L3 c s) _
    exact dd_Rn.retK 1 (pc := 22) (ls := [.ref 148, .ref (1000000 + w), .int a2, .int a3]) (st := [.int x3]) (M := sM Ln I3 L3 c s) (o := (none, .int x3, sM Ln I3 L3 c s)) rfl rfl h (by omega)

theorem w_X11_fault_0 {Ln d c s : Nat} {I : Nat → Nat → Int32} {L : Nat → Nat → Int64} {Q : dd_O → Prop} (hd : 28 ≤ d) (h : Q (none, .int (I 148 14), sM Ln (dd_u I 148 (upd (I 148) 0 0)) L c s)) : dd_Ev d m_X11_fault [.ref 148] (sM Ln I L c s) Q := by
  obtain ⟨e, rfl⟩ : ∃ e, d = e + 16 := ⟨d - 16, by omega⟩
  show dd_Rn (e + 16) m_X11_fault (0, [.ref 148], [], sM Ln I L c s) Q
  exact dd_Rn.retK 5 (pc := 9) (ls := [.ref 148]) (st := [.int (I 148 14)]) (M := sM Ln (dd_u I 148 (upd (I 148) 0 0)) L c s) (o := (none, .int (I 148 14), sM Ln (dd_u I 148 (upd (I 148) 0 0)) L c s)) rfl rfl h (by omega)

theorem w_X11_readNumber_0 {Ln d c s : Nat} {I : Nat → Nat → Int32} {L : Nat → Nat → Int64} {Q : dd_O → Prop} {a1 a2 a3 : Int32} (hd : 28 ≤ d) (h : dd_Ev (d - 1) m_X11_number [.ref 148, .int a2, .int a3] (sM Ln I L c s) (dd_RI Ln c s (fun x1 I1 L1 => (((0 : Int32) ≤ x1 → ((0 ≤ a1 ∧ tn a1 < 2220) ∧ ((x1 < 0 → Q (none, .int 0, sM Ln (dd_u I1 149 (upd (I1 149) (tn a1) x1)) L1 c s)) ∧ (¬ (x1 < 0) → Q (none, .int 1, sM Ln (dd_u I1 149 (upd (I1 149) (tn a1) x1)) L1 c s))))) ∧ (¬ ((0 : Int32) ≤ x1) → ((0 ≤ a1 ∧ tn a1 < 2220) ∧ ((0 ≤ a1 ∧ tn a1 < 2220) ∧ ((x1 < 0 → Q (none, .int 0, sM Ln (dd_u I1 149 (upd (I1 149) (tn a1) (I1 149 (tn a1)))) L1 c s)) ∧ (¬ (x1 < 0) → Q (none, .int 1, sM Ln (dd_u I1 149 (upd (I1 149) (tn a1) (I1 149 (tn a1)))) L1 c s)))))))))) : dd_Ev d m_X11_readNumber [.ref 148, .int a1, .int a2, .int a3] (sM Ln I L c s) Q := by
  obtain ⟨e, rfl⟩ : ∃ e, d = e + 16 := ⟨d - 16, by omega⟩
  show dd_Rn (e + 16) m_X11_readNumber (0, [.ref 148, .int a1, .int a2, .int a3, .null], [], sM Ln I L c s) Q
  refine dd_Rn.cI 3 (pc := 3) (ls := [.ref 148, .int a1, .int a2, .int a3, .null]) (st := [.int a3, .int a2, .ref 148]) (x := m_X11_number) (as := [.ref 148, .int a2, .int a3]) (rest := []) rfl rfl rfl rfl h ?_
  intro x1 I1 L1 h
  show dd_Rn (e + 16) m_X11_readNumber (6, [.ref 148, .int a1, .int a2, .int a3, .null], [.int x1], sM Ln I1 L1 c s) _
  refine dd_Rn.ite 5 (c := (0 : Int32) ≤ x1) (A := (27, [.ref 148, .int a1, .int a2, .int a3, .int x1], [.int a1, .ref 149], sM Ln I1 L1 c s)) (B := (18, [.ref 148, .int a1, .int a2, .int a3, .int x1], [.int a1, .ref 149], sM Ln I1 L1 c s)) rfl (fun hc => ?_) (fun hc => ?_) (by omega)
  · have h := h.1 hc
    obtain ⟨hc, h⟩ := h
    refine dd_Rn.chk 1 (c := 0 ≤ a1 ∧ tn a1 < 2220) (A := (30, [.ref 148, .int a1, .int a2, .int a3, .int x1], [], sM Ln (dd_u I1 149 (upd (I1 149) (tn a1) x1)) L1 c s)) rfl hc ?_ (by omega)
    refine dd_Rn.ite 1 (c := x1 < 0) (A := (39, [.ref 148, .int a1, .int a2, .int a3, .int x1], [], sM Ln (dd_u I1 149 (upd (I1 149) (tn a1) x1)) L1 c s)) (B := (35, [.ref 148, .int a1, .int a2, .int a3, .int x1], [], sM Ln (dd_u I1 149 (upd (I1 149) (tn a1) x1)) L1 c s)) rfl (fun hc => ?_) (fun hc => ?_) (by omega)
    · have h := h.1 hc
      exact dd_Rn.retK 1 (pc := 40) (ls := [.ref 148, .int a1, .int a2, .int a3, .int x1]) (st := [.int 0]) (M := sM Ln (dd_u I1 149 (upd (I1 149) (tn a1) x1)) L1 c s) (o := (none, .int 0, sM Ln (dd_u I1 149 (upd (I1 149) (tn a1) x1)) L1 c s)) rfl rfl h (by omega)
    · have h := h.2 hc
      exact dd_Rn.retK 2 (pc := 40) (ls := [.ref 148, .int a1, .int a2, .int a3, .int x1]) (st := [.int 1]) (M := sM Ln (dd_u I1 149 (upd (I1 149) (tn a1) x1)) L1 c s) (o := (none, .int 1, sM Ln (dd_u I1 149 (upd (I1 149) (tn a1) x1)) L1 c s)) rfl rfl h (by omega)
  · have h := h.2 hc
    obtain ⟨hc, h⟩ := h
    refine dd_Rn.chk 3 (c := 0 ≤ a1 ∧ tn a1 < 2220) (A := (24, [.ref 148, .int a1, .int a2, .int a3, .int x1], [.int (I1 149 (tn a1)), .int a1, .ref 149], sM Ln I1 L1 c s)) rfl hc ?_ (by omega)
    obtain ⟨hc, h⟩ := h
    refine dd_Rn.chk 1 (c := 0 ≤ a1 ∧ tn a1 < 2220) (A := (30, [.ref 148, .int a1, .int a2, .int a3, .int x1], [], sM Ln (dd_u I1 149 (upd (I1 149) (tn a1) (I1 149 (tn a1)))) L1 c s)) rfl hc ?_ (by omega)
    refine dd_Rn.ite 1 (c := x1 < 0) (A := (39, [.ref 148, .int a1, .int a2, .int a3, .int x1], [], sM Ln (dd_u I1 149 (upd (I1 149) (tn a1) (I1 149 (tn a1)))) L1 c s)) (B := (35, [.ref 148, .int a1, .int a2, .int a3, .int x1], [], sM Ln (dd_u I1 149 (upd (I1 149) (tn a1) (I1 149 (tn a1)))) L1 c s)) rfl (fun hc => ?_) (fun hc => ?_) (by omega)
    · have h := h.1 hc
      exact dd_Rn.retK 1 (pc := 40) (ls := [.ref 148, .int a1, .int a2, .int a3, .int x1]) (st := [.int 0]) (M := sM Ln (dd_u I1 149 (upd (I1 149) (tn a1) (I1 149 (tn a1)))) L1 c s) (o := (none, .int 0, sM Ln (dd_u I1 149 (upd (I1 149) (tn a1) (I1 149 (tn a1)))) L1 c s)) rfl rfl h (by omega)
    · have h := h.2 hc
      exact dd_Rn.retK 2 (pc := 40) (ls := [.ref 148, .int a1, .int a2, .int a3, .int x1]) (st := [.int 1]) (M := sM Ln (dd_u I1 149 (upd (I1 149) (tn a1) (I1 149 (tn a1)))) L1 c s) (o := (none, .int 1, sM Ln (dd_u I1 149 (upd (I1 149) (tn a1) (I1 149 (tn a1)))) L1 c s)) rfl rfl h (by omega)

theorem w_X11_readPartLine_0 {Ln d c s : Nat} {I : Nat → Nat → Int32} {L : Nat → Nat → Int64} {Q : dd_O → Prop} (hd : 28 ≤ d) (h : ((I 149 0 = 6 → Q (none, .int 0, sM Ln I L c s)) ∧ (¬ (I 149 0 = 6) → dd_Ev (d - 1) m_X11_blanks [.ref 148] (sM Ln I L c s) (dd_RV Ln c s (fun I1 L1 => dd_Rn d m_X11_readPartLine (19, [.ref 148, .int 0, .int 1, .null], [], sM Ln I1 L1 c s) Q))))) : dd_Ev d m_X11_readPartLine [.ref 148] (sM Ln I L c s) Q := by
  obtain ⟨e, rfl⟩ : ∃ e, d = e + 16 := ⟨d - 16, by omega⟩
  show dd_Rn (e + 16) m_X11_readPartLine (0, [.ref 148, .null, .null, .null], [], sM Ln I L c s) Q
  refine dd_Rn.sub 1 (pc := 1) (ls := [.ref 148, .null, .null, .null]) (st := [.ref 148]) (M := sM Ln I L c s) (x := m_X11_parts) (as := [.ref 148]) (rest := []) rfl rfl rfl rfl ?_
  show dd_Rn (e + 15) m_X11_parts (0, [.ref 148], [], sM Ln I L c s) _
  refine dd_Rn.retK 4 (pc := 6) (ls := [.ref 148]) (st := [.int (I 149 0)]) (M := sM Ln I L c s) (o := (none, .int (I 149 0), sM Ln I L c s)) rfl rfl (dd_Af.ret rfl ?_) (by omega)
  show dd_Rn (e + 16) m_X11_readPartLine (4, [.ref 148, .null, .null, .null], [.int (I 149 0)], sM Ln I L c s) _
  refine dd_Rn.ite 1 (c := I 149 0 = 6) (A := (9, [.ref 148, .null, .null, .null], [], sM Ln I L c s)) (B := (11, [.ref 148, .null, .null, .null], [], sM Ln I L c s)) rfl (fun hc => ?_) (fun hc => ?_) (by omega)
  · have h := h.1 hc
    exact dd_Rn.retK 1 (pc := 10) (ls := [.ref 148, .null, .null, .null]) (st := [.int 0]) (M := sM Ln I L c s) (o := (none, .int 0, sM Ln I L c s)) rfl rfl h (by omega)
  · have h := h.2 hc
    refine dd_Rn.cV 1 (pc := 12) (ls := [.ref 148, .null, .null, .null]) (st := [.ref 148]) (x := m_X11_blanks) (as := [.ref 148]) (rest := []) rfl rfl rfl rfl h ?_
    intro I1 L1 h
    show dd_Rn (e + 16) m_X11_readPartLine (15, [.ref 148, .null, .null, .null], [], sM Ln I1 L1 c s) _
    exact dd_Rn.go 4 (cf' := (19, [.ref 148, .int 0, .int 1, .null], [], sM Ln I1 L1 c s)) rfl h (by omega)

theorem w_X11_readPartLine_19 {Ln d c s : Nat} {I : Nat → Nat → Int32} {L : Nat → Nat → Int64} {Q : dd_O → Prop} {a1 a2 : Int32} {a3 : Value} (hd : 28 ≤ d) (h : dd_Ev (d - 1) m_X11_isAt [.ref 148, .int 48, .int 57] (sM Ln I L c s) (dd_RI Ln c s (fun x1 I1 L1 => ((x1 = 0 → ((a1 = 8 → ((a2 = 0 → Q (none, .int 0, sM Ln I1 L1 c s)) ∧ (¬ (a2 = 0) → Q (none, .int 1, sM Ln (dd_u I1 149 (upd (I1 149) 0 ((I1 149 0) + 1))) L1 c s)))) ∧ (¬ (a1 = 8) → Q (none, .int 0, sM Ln I1 L1 c s)))) ∧ (¬ (x1 = 0) → ((0 ≤ I1 148 10 ∧ tn (I1 148 10) < 400) ∧ ((a2 = 0 → (((8 : Int32) ≤ a1 → dd_Rn d m_X11_readPartLine (19, [.ref 148, .int (a1 + 1), .int 0, .int ((I1 154 (tn (I1 148 10))) - 48)], [], sM Ln (dd_u I1 148 (upd (I1 148) 10 ((I1 148 10) + 1))) L1 c s) Q) ∧ (¬ ((8 : Int32) ≤ a1) → ((0 ≤ ((139 : Int32) + ((8 : Int32) * (I1 149 0))) + a1 ∧ tn (((139 : Int32) + ((8 : Int32) * (I1 149 0))) + a1) < 2220) ∧ dd_Rn d m_X11_readPartLine (19, [.ref 148, .int (a1 + 1), .int 0, .int ((I1 154 (tn (I1 148 10))) - 48)], [], sM Ln (dd_u (dd_u I1 149 (upd (I1 149) (tn (((139 : Int32) + ((8 : Int32) * (I1 149 0))) + a1)) ((I1 154 (tn (I1 148 10))) - 48))) 148 (upd (I1 148) 10 ((I1 148 10) + 1))) L1 c s) Q)))) ∧ (¬ (a2 = 0) → (((8 : Int32) ≤ (I1 154 (tn (I1 148 10))) - 48 → (((8 : Int32) ≤ a1 → dd_Rn d m_X11_readPartLine (19, [.ref 148, .int (a1 + 1), .int 0, .int ((I1 154 (tn (I1 148 10))) - 48)], [], sM Ln (dd_u I1 148 (upd (I1 148) 10 ((I1 148 10) + 1))) L1 c s) Q) ∧ (¬ ((8 : Int32) ≤ a1) → ((0 ≤ ((139 : Int32) + ((8 : Int32) * (I1 149 0))) + a1 ∧ tn (((139 : Int32) + ((8 : Int32) * (I1 149 0))) + a1) < 2220) ∧ dd_Rn d m_X11_readPartLine (19, [.ref 148, .int (a1 + 1), .int 0, .int ((I1 154 (tn (I1 148 10))) - 48)], [], sM Ln (dd_u (dd_u I1 149 (upd (I1 149) (tn (((139 : Int32) + ((8 : Int32) * (I1 149 0))) + a1)) ((I1 154 (tn (I1 148 10))) - 48))) 148 (upd (I1 148) 10 ((I1 148 10) + 1))) L1 c s) Q)))) ∧ (¬ ((8 : Int32) ≤ (I1 154 (tn (I1 148 10))) - 48) → (((8 : Int32) ≤ a1 → dd_Rn d m_X11_readPartLine (19, [.ref 148, .int (a1 + 1), .int 1, .int ((I1 154 (tn (I1 148 10))) - 48)], [], sM Ln (dd_u I1 148 (upd (I1 148) 10 ((I1 148 10) + 1))) L1 c s) Q) ∧ (¬ ((8 : Int32) ≤ a1) → ((0 ≤ ((139 : Int32) + ((8 : Int32) * (I1 149 0))) + a1 ∧ tn (((139 : Int32) + ((8 : Int32) * (I1 149 0))) + a1) < 2220) ∧ dd_Rn d m_X11_readPartLine (19, [.ref 148, .int (a1 + 1), .int 1, .int ((I1 154 (tn (I1 148 10))) - 48)], [], sM Ln (dd_u (dd_u I1 149 (upd (I1 149) (tn (((139 : Int32) + ((8 : Int32) * (I1 149 0))) + a1)) ((I1 154 (tn (I1 148 10))) - 48))) 148 (upd (I1 148) 10 ((I1 148 10) + 1))) L1 c s) Q))))))))))))) : dd_Rn d m_X11_readPartLine (19, [.ref 148, .int a1, .int a2, a3], [], sM Ln I L c s) Q := by
  obtain ⟨e, rfl⟩ : ∃ e, d = e + 16 := ⟨d - 16, by omega⟩
  refine dd_Rn.cI 3 (pc := 24) (ls := [.ref 148, .int a1, .int a2, a3]) (st := [.int 57, .int 48, .ref 148]) (x := m_X11_isAt) (as := [.ref 148, .int 48, .int 57]) (rest := []) rfl rfl rfl rfl h ?_
  intro x1 I1 L1 h
  show dd_Rn (e + 16) m_X11_readPartLine (27, [.ref 148, .int a1, .int a2, a3], [.int x1], sM Ln I1 L1 c s) _
  refine dd_Rn.ite 0 (c := x1 = 0) (A := (95, [.ref 148, .int a1, .int a2, a3], [], sM Ln I1 L1 c s)) (B := (30, [.ref 148, .int a1, .int a2, a3], [], sM Ln I1 L1 c s)) rfl (fun hc => ?_) (fun hc => ?_) (by omega)
  · have h := h.1 hc
    refine dd_Rn.ite 2 (c := a1 = 8) (A := (101, [.ref 148, .int a1, .int a2, a3], [], sM Ln I1 L1 c s)) (B := (105, [.ref 148, .int a1, .int a2, a3], [], sM Ln I1 L1 c s)) rfl (fun hc => ?_) (fun hc => ?_) (by omega)
    · have h := h.1 hc
      refine dd_Rn.ite 1 (c := a2 = 0) (A := (105, [.ref 148, .int a1, .int a2, a3], [], sM Ln I1 L1 c s)) (B := (107, [.ref 148, .int a1, .int a2, a3], [], sM Ln I1 L1 c s)) rfl (fun hc => ?_) (fun hc => ?_) (by omega)
      · have h := h.1 hc
        exact dd_Rn.retK 1 (pc := 106) (ls := [.ref 148, .int a1, .int a2, a3]) (st := [.int 0]) (M := sM Ln I1 L1 c s) (o := (none, .int 0, sM Ln I1 L1 c s)) rfl rfl h (by omega)
      · have h := h.2 hc
        exact dd_Rn.retK 9 (pc := 118) (ls := [.ref 148, .int a1, .int a2, a3]) (st := [.int 1]) (M := sM Ln (dd_u I1 149 (upd (I1 149) 0 ((I1 149 0) + 1))) L1 c s) (o := (none, .int 1, sM Ln (dd_u I1 149 (upd (I1 149) 0 ((I1 149 0) + 1))) L1 c s)) rfl rfl h (by omega)
    · have h := h.2 hc
      exact dd_Rn.retK 1 (pc := 106) (ls := [.ref 148, .int a1, .int a2, a3]) (st := [.int 0]) (M := sM Ln I1 L1 c s) (o := (none, .int 0, sM Ln I1 L1 c s)) rfl rfl h (by omega)
  · have h := h.2 hc
    obtain ⟨hc, h⟩ := h
    refine dd_Rn.go 4 (cf' := (38, [.ref 148, .int a1, .int a2, a3], [.int (I1 148 10), .ref 154], sM Ln I1 L1 c s)) rfl ?_ (by omega)
    refine dd_Rn.ci (fun j0 => (38, [.ref 148, .int a1, .int a2, a3], [.int j0, .ref 154], sM Ln I1 L1 c s)) (fun j0 => (39, [.ref 148, .int a1, .int a2, a3], [.int (I1 154 (tn j0))], sM Ln I1 L1 c s)) (fun j0 => 0 ≤ j0 ∧ tn j0 < 400) (I1 148 10) (fun j0 hc h => dd_Rn.chk 0 (c := 0 ≤ j0 ∧ tn j0 < 400) (A := (39, [.ref 148, .int a1, .int a2, a3], [.int (I1 154 (tn j0))], sM Ln I1 L1 c s)) rfl hc h (by omega)) hc ?_
    refine dd_Rn.se (cf := (39, [.ref 148, .int a1, .int a2, a3], [.int (I1 154 (tn (I1 148 10)))], sM Ln I1 L1 c s)) ?_
    refine dd_Rn.ite 4 (c := a2 = 0) (A := (57, [.ref 148, .int a1, .int a2, .int ((I1 154 (tn (I1 148 10))) - 48)], [], sM Ln I1 L1 c s)) (B := (47, [.ref 148, .int a1, .int a2, .int ((I1 154 (tn (I1 148 10))) - 48)], [], sM Ln I1 L1 c s)) rfl (fun hc => ?_) (fun hc => ?_) (by omega)
    · have h := h.1 hc
      refine dd_Rn.ite 4 (c := (8 : Int32) ≤ a1) (A := (79, [.ref 148, .int a1, .int 0, .int ((I1 154 (tn (I1 148 10))) - 48)], [], sM Ln I1 L1 c s)) (B := (65, [.ref 148, .int a1, .int 0, .int ((I1 154 (tn (I1 148 10))) - 48)], [], sM Ln I1 L1 c s)) rfl (fun hc => ?_) (fun hc => ?_) (by omega)
      · have h := h.1 hc
        exact dd_Rn.go 8 (cf' := (19, [.ref 148, .int (a1 + 1), .int 0, .int ((I1 154 (tn (I1 148 10))) - 48)], [], sM Ln (dd_u I1 148 (upd (I1 148) 10 ((I1 148 10) + 1))) L1 c s)) rfl h (by omega)
      · have h := h.2 hc
        refine dd_Rn.sub 3 (pc := 70) (ls := [.ref 148, .int a1, .int 0, .int ((I1 154 (tn (I1 148 10))) - 48)]) (st := [.ref 148, .ref 149]) (M := sM Ln I1 L1 c s) (x := m_X11_parts) (as := [.ref 148]) (rest := [.ref 149]) rfl rfl rfl rfl ?_
        show dd_Rn (e + 15) m_X11_parts (0, [.ref 148], [], sM Ln I1 L1 c s) _
        refine dd_Rn.retK 4 (pc := 6) (ls := [.ref 148]) (st := [.int (I1 149 0)]) (M := sM Ln I1 L1 c s) (o := (none, .int (I1 149 0), sM Ln I1 L1 c s)) rfl rfl (dd_Af.ret rfl ?_) (by omega)
        show dd_Rn (e + 16) m_X11_readPartLine (73, [.ref 148, .int a1, .int 0, .int ((I1 154 (tn (I1 148 10))) - 48)], [.int (I1 149 0), .ref 149], sM Ln I1 L1 c s) _
        refine dd_Rn.sub 1 (pc := 74) (ls := [.ref 148, .int a1, .int 0, .int ((I1 154 (tn (I1 148 10))) - 48)]) (st := [.int a1, .int (I1 149 0), .ref 149]) (M := sM Ln I1 L1 c s) (x := m_X11_noteAt) (as := [.int (I1 149 0), .int a1]) (rest := [.ref 149]) rfl rfl rfl rfl ?_
        show dd_Rn (e + 15) m_X11_noteAt (0, [.int (I1 149 0), .int a1], [], sM Ln I1 L1 c s) _
        refine dd_Rn.retK 7 (pc := 10) (ls := [.int (I1 149 0), .int a1]) (st := [.int (((139 : Int32) + ((8 : Int32) * (I1 149 0))) + a1)]) (M := sM Ln I1 L1 c s) (o := (none, .int (((139 : Int32) + ((8 : Int32) * (I1 149 0))) + a1), sM Ln I1 L1 c s)) rfl rfl (dd_Af.ret rfl ?_) (by omega)
        show dd_Rn (e + 16) m_X11_readPartLine (77, [.ref 148, .int a1, .int 0, .int ((I1 154 (tn (I1 148 10))) - 48)], [.int (((139 : Int32) + ((8 : Int32) * (I1 149 0))) + a1), .ref 149], sM Ln I1 L1 c s) _
        obtain ⟨hc, h⟩ := h
        refine dd_Rn.go 1 (cf' := (78, [.ref 148, .int a1, .int 0, .int ((I1 154 (tn (I1 148 10))) - 48)], [.int ((I1 154 (tn (I1 148 10))) - 48), .int (((139 : Int32) + ((8 : Int32) * (I1 149 0))) + a1), .ref 149], sM Ln I1 L1 c s)) rfl ?_ (by omega)
        refine dd_Rn.ci (fun j0 => (78, [.ref 148, .int a1, .int 0, .int ((I1 154 (tn (I1 148 10))) - 48)], [.int ((I1 154 (tn (I1 148 10))) - 48), .int j0, .ref 149], sM Ln I1 L1 c s)) (fun j0 => (79, [.ref 148, .int a1, .int 0, .int ((I1 154 (tn (I1 148 10))) - 48)], [], sM Ln (dd_u I1 149 (upd (I1 149) (tn j0) ((I1 154 (tn (I1 148 10))) - 48))) L1 c s)) (fun j0 => 0 ≤ j0 ∧ tn j0 < 2220) (((139 : Int32) + ((8 : Int32) * (I1 149 0))) + a1) (fun j0 hc h => dd_Rn.chk 0 (c := 0 ≤ j0 ∧ tn j0 < 2220) (A := (79, [.ref 148, .int a1, .int 0, .int ((I1 154 (tn (I1 148 10))) - 48)], [], sM Ln (dd_u I1 149 (upd (I1 149) (tn j0) ((I1 154 (tn (I1 148 10))) - 48))) L1 c s)) rfl hc h (by omega)) hc ?_
        refine dd_Rn.se (cf := (79, [.ref 148, .int a1, .int 0, .int ((I1 154 (tn (I1 148 10))) - 48)], [], sM Ln (dd_u I1 149 (upd (I1 149) (tn (((139 : Int32) + ((8 : Int32) * (I1 149 0))) + a1)) ((I1 154 (tn (I1 148 10))) - 48))) L1 c s)) ?_
        exact dd_Rn.go 8 (cf' := (19, [.ref 148, .int (a1 + 1), .int 0, .int ((I1 154 (tn (I1 148 10))) - 48)], [], sM Ln (dd_u (dd_u I1 149 (upd (I1 149) (tn (((139 : Int32) + ((8 : Int32) * (I1 149 0))) + a1)) ((I1 154 (tn (I1 148 10))) - 48))) 148 (upd (I1 148) 10 ((I1 148 10) + 1))) L1 c s)) rfl h (by omega)
    · have h := h.2 hc
      refine dd_Rn.ite 2 (c := (8 : Int32) ≤ (I1 154 (tn (I1 148 10))) - 48) (A := (57, [.ref 148, .int a1, .int a2, .int ((I1 154 (tn (I1 148 10))) - 48)], [], sM Ln I1 L1 c s)) (B := (53, [.ref 148, .int a1, .int a2, .int ((I1 154 (tn (I1 148 10))) - 48)], [], sM Ln I1 L1 c s)) rfl (fun hc => ?_) (fun hc => ?_) (by omega)
      · have h := h.1 hc
        refine dd_Rn.ite 4 (c := (8 : Int32) ≤ a1) (A := (79, [.ref 148, .int a1, .int 0, .int ((I1 154 (tn (I1 148 10))) - 48)], [], sM Ln I1 L1 c s)) (B := (65, [.ref 148, .int a1, .int 0, .int ((I1 154 (tn (I1 148 10))) - 48)], [], sM Ln I1 L1 c s)) rfl (fun hc => ?_) (fun hc => ?_) (by omega)
        · have h := h.1 hc
          exact dd_Rn.go 8 (cf' := (19, [.ref 148, .int (a1 + 1), .int 0, .int ((I1 154 (tn (I1 148 10))) - 48)], [], sM Ln (dd_u I1 148 (upd (I1 148) 10 ((I1 148 10) + 1))) L1 c s)) rfl h (by omega)
        · have h := h.2 hc
          refine dd_Rn.sub 3 (pc := 70) (ls := [.ref 148, .int a1, .int 0, .int ((I1 154 (tn (I1 148 10))) - 48)]) (st := [.ref 148, .ref 149]) (M := sM Ln I1 L1 c s) (x := m_X11_parts) (as := [.ref 148]) (rest := [.ref 149]) rfl rfl rfl rfl ?_
          show dd_Rn (e + 15) m_X11_parts (0, [.ref 148], [], sM Ln I1 L1 c s) _
          refine dd_Rn.retK 4 (pc := 6) (ls := [.ref 148]) (st := [.int (I1 149 0)]) (M := sM Ln I1 L1 c s) (o := (none, .int (I1 149 0), sM Ln I1 L1 c s)) rfl rfl (dd_Af.ret rfl ?_) (by omega)
          show dd_Rn (e + 16) m_X11_readPartLine (73, [.ref 148, .int a1, .int 0, .int ((I1 154 (tn (I1 148 10))) - 48)], [.int (I1 149 0), .ref 149], sM Ln I1 L1 c s) _
          refine dd_Rn.sub 1 (pc := 74) (ls := [.ref 148, .int a1, .int 0, .int ((I1 154 (tn (I1 148 10))) - 48)]) (st := [.int a1, .int (I1 149 0), .ref 149]) (M := sM Ln I1 L1 c s) (x := m_X11_noteAt) (as := [.int (I1 149 0), .int a1]) (rest := [.ref 149]) rfl rfl rfl rfl ?_
          show dd_Rn (e + 15) m_X11_noteAt (0, [.int (I1 149 0), .int a1], [], sM Ln I1 L1 c s) _
          refine dd_Rn.retK 7 (pc := 10) (ls := [.int (I1 149 0), .int a1]) (st := [.int (((139 : Int32) + ((8 : Int32) * (I1 149 0))) + a1)]) (M := sM Ln I1 L1 c s) (o := (none, .int (((139 : Int32) + ((8 : Int32) * (I1 149 0))) + a1), sM Ln I1 L1 c s)) rfl rfl (dd_Af.ret rfl ?_) (by omega)
          show dd_Rn (e + 16) m_X11_readPartLine (77, [.ref 148, .int a1, .int 0, .int ((I1 154 (tn (I1 148 10))) - 48)], [.int (((139 : Int32) + ((8 : Int32) * (I1 149 0))) + a1), .ref 149], sM Ln I1 L1 c s) _
          obtain ⟨hc, h⟩ := h
          refine dd_Rn.go 1 (cf' := (78, [.ref 148, .int a1, .int 0, .int ((I1 154 (tn (I1 148 10))) - 48)], [.int ((I1 154 (tn (I1 148 10))) - 48), .int (((139 : Int32) + ((8 : Int32) * (I1 149 0))) + a1), .ref 149], sM Ln I1 L1 c s)) rfl ?_ (by omega)
          refine dd_Rn.ci (fun j0 => (78, [.ref 148, .int a1, .int 0, .int ((I1 154 (tn (I1 148 10))) - 48)], [.int ((I1 154 (tn (I1 148 10))) - 48), .int j0, .ref 149], sM Ln I1 L1 c s)) (fun j0 => (79, [.ref 148, .int a1, .int 0, .int ((I1 154 (tn (I1 148 10))) - 48)], [], sM Ln (dd_u I1 149 (upd (I1 149) (tn j0) ((I1 154 (tn (I1 148 10))) - 48))) L1 c s)) (fun j0 => 0 ≤ j0 ∧ tn j0 < 2220) (((139 : Int32) + ((8 : Int32) * (I1 149 0))) + a1) (fun j0 hc h => dd_Rn.chk 0 (c := 0 ≤ j0 ∧ tn j0 < 2220) (A := (79, [.ref 148, .int a1, .int 0, .int ((I1 154 (tn (I1 148 10))) - 48)], [], sM Ln (dd_u I1 149 (upd (I1 149) (tn j0) ((I1 154 (tn (I1 148 10))) - 48))) L1 c s)) rfl hc h (by omega)) hc ?_
          refine dd_Rn.se (cf := (79, [.ref 148, .int a1, .int 0, .int ((I1 154 (tn (I1 148 10))) - 48)], [], sM Ln (dd_u I1 149 (upd (I1 149) (tn (((139 : Int32) + ((8 : Int32) * (I1 149 0))) + a1)) ((I1 154 (tn (I1 148 10))) - 48))) L1 c s)) ?_
          exact dd_Rn.go 8 (cf' := (19, [.ref 148, .int (a1 + 1), .int 0, .int ((I1 154 (tn (I1 148 10))) - 48)], [], sM Ln (dd_u (dd_u I1 149 (upd (I1 149) (tn (((139 : Int32) + ((8 : Int32) * (I1 149 0))) + a1)) ((I1 154 (tn (I1 148 10))) - 48))) 148 (upd (I1 148) 10 ((I1 148 10) + 1))) L1 c s)) rfl h (by omega)
      · have h := h.2 hc
        refine dd_Rn.ite 5 (c := (8 : Int32) ≤ a1) (A := (79, [.ref 148, .int a1, .int 1, .int ((I1 154 (tn (I1 148 10))) - 48)], [], sM Ln I1 L1 c s)) (B := (65, [.ref 148, .int a1, .int 1, .int ((I1 154 (tn (I1 148 10))) - 48)], [], sM Ln I1 L1 c s)) rfl (fun hc => ?_) (fun hc => ?_) (by omega)
        · have h := h.1 hc
          exact dd_Rn.go 8 (cf' := (19, [.ref 148, .int (a1 + 1), .int 1, .int ((I1 154 (tn (I1 148 10))) - 48)], [], sM Ln (dd_u I1 148 (upd (I1 148) 10 ((I1 148 10) + 1))) L1 c s)) rfl h (by omega)
        · have h := h.2 hc
          refine dd_Rn.sub 3 (pc := 70) (ls := [.ref 148, .int a1, .int 1, .int ((I1 154 (tn (I1 148 10))) - 48)]) (st := [.ref 148, .ref 149]) (M := sM Ln I1 L1 c s) (x := m_X11_parts) (as := [.ref 148]) (rest := [.ref 149]) rfl rfl rfl rfl ?_
          show dd_Rn (e + 15) m_X11_parts (0, [.ref 148], [], sM Ln I1 L1 c s) _
          refine dd_Rn.retK 4 (pc := 6) (ls := [.ref 148]) (st := [.int (I1 149 0)]) (M := sM Ln I1 L1 c s) (o := (none, .int (I1 149 0), sM Ln I1 L1 c s)) rfl rfl (dd_Af.ret rfl ?_) (by omega)
          show dd_Rn (e + 16) m_X11_readPartLine (73, [.ref 148, .int a1, .int 1, .int ((I1 154 (tn (I1 148 10))) - 48)], [.int (I1 149 0), .ref 149], sM Ln I1 L1 c s) _
          refine dd_Rn.sub 1 (pc := 74) (ls := [.ref 148, .int a1, .int 1, .int ((I1 154 (tn (I1 148 10))) - 48)]) (st := [.int a1, .int (I1 149 0), .ref 149]) (M := sM Ln I1 L1 c s) (x := m_X11_noteAt) (as := [.int (I1 149 0), .int a1]) (rest := [.ref 149]) rfl rfl rfl rfl ?_
          show dd_Rn (e + 15) m_X11_noteAt (0, [.int (I1 149 0), .int a1], [], sM Ln I1 L1 c s) _
          refine dd_Rn.retK 7 (pc := 10) (ls := [.int (I1 149 0), .int a1]) (st := [.int (((139 : Int32) + ((8 : Int32) * (I1 149 0))) + a1)]) (M := sM Ln I1 L1 c s) (o := (none, .int (((139 : Int32) + ((8 : Int32) * (I1 149 0))) + a1), sM Ln I1 L1 c s)) rfl rfl (dd_Af.ret rfl ?_) (by omega)
          show dd_Rn (e + 16) m_X11_readPartLine (77, [.ref 148, .int a1, .int 1, .int ((I1 154 (tn (I1 148 10))) - 48)], [.int (((139 : Int32) + ((8 : Int32) * (I1 149 0))) + a1), .ref 149], sM Ln I1 L1 c s) _
          obtain ⟨hc, h⟩ := h
          refine dd_Rn.go 1 (cf' := (78, [.ref 148, .int a1, .int 1, .int ((I1 154 (tn (I1 148 10))) - 48)], [.int ((I1 154 (tn (I1 148 10))) - 48), .int (((139 : Int32) + ((8 : Int32) * (I1 149 0))) + a1), .ref 149], sM Ln I1 L1 c s)) rfl ?_ (by omega)
          refine dd_Rn.ci (fun j0 => (78, [.ref 148, .int a1, .int 1, .int ((I1 154 (tn (I1 148 10))) - 48)], [.int ((I1 154 (tn (I1 148 10))) - 48), .int j0, .ref 149], sM Ln I1 L1 c s)) (fun j0 => (79, [.ref 148, .int a1, .int 1, .int ((I1 154 (tn (I1 148 10))) - 48)], [], sM Ln (dd_u I1 149 (upd (I1 149) (tn j0) ((I1 154 (tn (I1 148 10))) - 48))) L1 c s)) (fun j0 => 0 ≤ j0 ∧ tn j0 < 2220) (((139 : Int32) + ((8 : Int32) * (I1 149 0))) + a1) (fun j0 hc h => dd_Rn.chk 0 (c := 0 ≤ j0 ∧ tn j0 < 2220) (A := (79, [.ref 148, .int a1, .int 1, .int ((I1 154 (tn (I1 148 10))) - 48)], [], sM Ln (dd_u I1 149 (upd (I1 149) (tn j0) ((I1 154 (tn (I1 148 10))) - 48))) L1 c s)) rfl hc h (by omega)) hc ?_
          refine dd_Rn.se (cf := (79, [.ref 148, .int a1, .int 1, .int ((I1 154 (tn (I1 148 10))) - 48)], [], sM Ln (dd_u I1 149 (upd (I1 149) (tn (((139 : Int32) + ((8 : Int32) * (I1 149 0))) + a1)) ((I1 154 (tn (I1 148 10))) - 48))) L1 c s)) ?_
          exact dd_Rn.go 8 (cf' := (19, [.ref 148, .int (a1 + 1), .int 1, .int ((I1 154 (tn (I1 148 10))) - 48)], [], sM Ln (dd_u (dd_u I1 149 (upd (I1 149) (tn (((139 : Int32) + ((8 : Int32) * (I1 149 0))) + a1)) ((I1 154 (tn (I1 148 10))) - 48))) 148 (upd (I1 148) 10 ((I1 148 10) + 1))) L1 c s)) rfl h (by omega)

theorem w_X11_readBoy_0 {Ln d c s : Nat} {I : Nat → Nat → Int32} {L : Nat → Nat → Int64} {Q : dd_O → Prop} (hd : 28 ≤ d) (h : ((I 149 1 = 6 → Q (none, .int 0, sM Ln I L c s)) ∧ (¬ (I 149 1 = 6) → dd_Ev (d - 1) m_X11_after [.ref 148, .ref 1000048, .int 0, .int 63] (sM Ln I L c s) (dd_RI Ln c s (fun x1 I1 L1 => ((x1 < 0 → Q (none, .int 0, sM Ln I1 L1 c s)) ∧ (¬ (x1 < 0) → ((0 ≤ (11 : Int32) + x1 ∧ tn ((11 : Int32) + x1) < 2220) ∧ ((I1 149 (tn ((11 : Int32) + x1)) = 1 → Q (none, .int 0, sM Ln I1 L1 c s)) ∧ (¬ (I1 149 (tn ((11 : Int32) + x1)) = 1) → dd_Ev (d - 1) m_X11_after [.ref 148, .ref 1000049, .int 0, .int ((I1 149 0) - 1)] (sM Ln I1 L1 c s) (dd_RI Ln c s (fun x2 I2 L2 => (((0 : Int32) ≤ x2 → dd_Ev (d - 1) m_X11_after [.ref 148, .ref 1000050, .int 0, .int 15] (sM Ln I2 L2 c s) (dd_RI Ln c s (fun x3 I3 L3 => (((0 : Int32) ≤ x3 → ((0 ≤ ((187 : Int32) + ((5 : Int32) * (I 149 1))) + 0 ∧ tn (((187 : Int32) + ((5 : Int32) * (I 149 1))) + 0) < 2220) ∧ ((0 ≤ ((187 : Int32) + ((5 : Int32) * (I 149 1))) + 1 ∧ tn (((187 : Int32) + ((5 : Int32) * (I 149 1))) + 1) < 2220) ∧ ((0 ≤ ((187 : Int32) + ((5 : Int32) * (I 149 1))) + 2 ∧ tn (((187 : Int32) + ((5 : Int32) * (I 149 1))) + 2) < 2220) ∧ ((x1 = (upd (upd (upd (I3 149) (tn (((187 : Int32) + ((5 : Int32) * (I 149 1))) + 0)) x1) (tn (((187 : Int32) + ((5 : Int32) * (I 149 1))) + 1)) x2) (tn (((187 : Int32) + ((5 : Int32) * (I 149 1))) + 2)) x3) 4 → ((0 ≤ ((187 : Int32) + ((5 : Int32) * (I 149 1))) + 3 ∧ tn (((187 : Int32) + ((5 : Int32) * (I 149 1))) + 3) < 2220) ∧ ((0 ≤ ((187 : Int32) + ((5 : Int32) * (I 149 1))) + 4 ∧ tn (((187 : Int32) + ((5 : Int32) * (I 149 1))) + 4) < 2220) ∧ Q (none, .int 1, sM Ln (dd_u (dd_u (dd_u (dd_u (dd_u (dd_u I3 149 (upd (I3 149) (tn (((187 : Int32) + ((5 : Int32) * (I 149 1))) + 0)) x1)) 149 (upd (upd (I3 149) (tn (((187 : Int32) + ((5 : Int32) * (I 149 1))) + 0)) x1) (tn (((187 : Int32) + ((5 : Int32) * (I 149 1))) + 1)) x2)) 149 (upd (upd (upd (I3 149) (tn (((187 : Int32) + ((5 : Int32) * (I 149 1))) + 0)) x1) (tn (((187 : Int32) + ((5 : Int32) * (I 149 1))) + 1)) x2) (tn (((187 : Int32) + ((5 : Int32) * (I 149 1))) + 2)) x3)) 149 (upd (upd (upd (upd (I3 149) (tn (((187 : Int32) + ((5 : Int32) * (I 149 1))) + 0)) x1) (tn (((187 : Int32) + ((5 : Int32) * (I 149 1))) + 1)) x2) (tn (((187 : Int32) + ((5 : Int32) * (I 149 1))) + 2)) x3) (tn (((187 : Int32) + ((5 : Int32) * (I 149 1))) + 3)) 1)) 149 (upd (upd (upd (upd (upd (I3 149) (tn (((187 : Int32) + ((5 : Int32) * (I 149 1))) + 0)) x1) (tn (((187 : Int32) + ((5 : Int32) * (I 149 1))) + 1)) x2) (tn (((187 : Int32) + ((5 : Int32) * (I 149 1))) + 2)) x3) (tn (((187 : Int32) + ((5 : Int32) * (I 149 1))) + 3)) 1) (tn (((187 : Int32) + ((5 : Int32) * (I 149 1))) + 4)) 0)) 149 (upd (upd (upd (upd (upd (upd (I3 149) (tn (((187 : Int32) + ((5 : Int32) * (I 149 1))) + 0)) x1) (tn (((187 : Int32) + ((5 : Int32) * (I 149 1))) + 1)) x2) (tn (((187 : Int32) + ((5 : Int32) * (I 149 1))) + 2)) x3) (tn (((187 : Int32) + ((5 : Int32) * (I 149 1))) + 3)) 1) (tn (((187 : Int32) + ((5 : Int32) * (I 149 1))) + 4)) 0) 1 (((upd (upd (upd (upd (upd (I3 149) (tn (((187 : Int32) + ((5 : Int32) * (I 149 1))) + 0)) x1) (tn (((187 : Int32) + ((5 : Int32) * (I 149 1))) + 1)) x2) (tn (((187 : Int32) + ((5 : Int32) * (I 149 1))) + 2)) x3) (tn (((187 : Int32) + ((5 : Int32) * (I 149 1))) + 3)) 1) (tn (((187 : Int32) + ((5 : Int32) * (I 149 1))) + 4)) 0) 1) + 1))) L3 c s)))) ∧ (¬ (x1 = (upd (upd (upd (I3 149) (tn (((187 : Int32) + ((5 : Int32) * (I 149 1))) + 0)) x1) (tn (((187 : Int32) + ((5 : Int32) * (I 149 1))) + 1)) x2) (tn (((187 : Int32) + ((5 : Int32) * (I 149 1))) + 2)) x3) 4) → ((0 ≤ ((187 : Int32) + ((5 : Int32) * (I 149 1))) + 3 ∧ tn (((187 : Int32) + ((5 : Int32) * (I 149 1))) + 3) < 2220) ∧ ((0 ≤ ((187 : Int32) + ((5 : Int32) * (I 149 1))) + 4 ∧ tn (((187 : Int32) + ((5 : Int32) * (I 149 1))) + 4) < 2220) ∧ Q (none, .int 1, sM Ln (dd_u (dd_u (dd_u (dd_u (dd_u (dd_u I3 149 (upd (I3 149) (tn (((187 : Int32) + ((5 : Int32) * (I 149 1))) + 0)) x1)) 149 (upd (upd (I3 149) (tn (((187 : Int32) + ((5 : Int32) * (I 149 1))) + 0)) x1) (tn (((187 : Int32) + ((5 : Int32) * (I 149 1))) + 1)) x2)) 149 (upd (upd (upd (I3 149) (tn (((187 : Int32) + ((5 : Int32) * (I 149 1))) + 0)) x1) (tn (((187 : Int32) + ((5 : Int32) * (I 149 1))) + 1)) x2) (tn (((187 : Int32) + ((5 : Int32) * (I 149 1))) + 2)) x3)) 149 (upd (upd (upd (upd (I3 149) (tn (((187 : Int32) + ((5 : Int32) * (I 149 1))) + 0)) x1) (tn (((187 : Int32) + ((5 : Int32) * (I 149 1))) + 1)) x2) (tn (((187 : Int32) + ((5 : Int32) * (I 149 1))) + 2)) x3) (tn (((187 : Int32) + ((5 : Int32) * (I 149 1))) + 3)) 0)) 149 (upd (upd (upd (upd (upd (I3 149) (tn (((187 : Int32) + ((5 : Int32) * (I 149 1))) + 0)) x1) (tn (((187 : Int32) + ((5 : Int32) * (I 149 1))) + 1)) x2) (tn (((187 : Int32) + ((5 : Int32) * (I 149 1))) + 2)) x3) (tn (((187 : Int32) + ((5 : Int32) * (I 149 1))) + 3)) 0) (tn (((187 : Int32) + ((5 : Int32) * (I 149 1))) + 4)) 0)) 149 (upd (upd (upd (upd (upd (upd (I3 149) (tn (((187 : Int32) + ((5 : Int32) * (I 149 1))) + 0)) x1) (tn (((187 : Int32) + ((5 : Int32) * (I 149 1))) + 1)) x2) (tn (((187 : Int32) + ((5 : Int32) * (I 149 1))) + 2)) x3) (tn (((187 : Int32) + ((5 : Int32) * (I 149 1))) + 3)) 0) (tn (((187 : Int32) + ((5 : Int32) * (I 149 1))) + 4)) 0) 1 (((upd (upd (upd (upd (upd (I3 149) (tn (((187 : Int32) + ((5 : Int32) * (I 149 1))) + 0)) x1) (tn (((187 : Int32) + ((5 : Int32) * (I 149 1))) + 1)) x2) (tn (((187 : Int32) + ((5 : Int32) * (I 149 1))) + 2)) x3) (tn (((187 : Int32) + ((5 : Int32) * (I 149 1))) + 3)) 0) (tn (((187 : Int32) + ((5 : Int32) * (I 149 1))) + 4)) 0) 1) + 1))) L3 c s))))))))) ∧ (¬ ((0 : Int32) ≤ x3) → Q (none, .int 0, sM Ln I3 L3 c s)))))) ∧ (¬ ((0 : Int32) ≤ x2) → Q (none, .int 0, sM Ln I2 L2 c s))))))))))))))) : dd_Ev d m_X11_readBoy [.ref 148] (sM Ln I L c s) Q := by
  obtain ⟨e, rfl⟩ : ∃ e, d = e + 16 := ⟨d - 16, by omega⟩
  show dd_Rn (e + 16) m_X11_readBoy (0, [.ref 148, .null, .null, .null, .null], [], sM Ln I L c s) Q
  refine dd_Rn.sub 1 (pc := 1) (ls := [.ref 148, .null, .null, .null, .null]) (st := [.ref 148]) (M := sM Ln I L c s) (x := m_X11_boys) (as := [.ref 148]) (rest := []) rfl rfl rfl rfl ?_
  show dd_Rn (e + 15) m_X11_boys (0, [.ref 148], [], sM Ln I L c s) _
  refine dd_Rn.retK 4 (pc := 6) (ls := [.ref 148]) (st := [.int (I 149 1)]) (M := sM Ln I L c s) (o := (none, .int (I 149 1), sM Ln I L c s)) rfl rfl (dd_Af.ret rfl ?_) (by omega)
  show dd_Rn (e + 16) m_X11_readBoy (4, [.ref 148, .null, .null, .null, .null], [.int (I 149 1)], sM Ln I L c s) _
  refine dd_Rn.ite 3 (c := I 149 1 = 6) (A := (11, [.ref 148, .int (I 149 1), .null, .null, .null], [], sM Ln I L c s)) (B := (13, [.ref 148, .int (I 149 1), .null, .null, .null], [], sM Ln I L c s)) rfl (fun hc => ?_) (fun hc => ?_) (by omega)
  · have h := h.1 hc
    exact dd_Rn.retK 1 (pc := 12) (ls := [.ref 148, .int (I 149 1), .null, .null, .null]) (st := [.int 0]) (M := sM Ln I L c s) (o := (none, .int 0, sM Ln I L c s)) rfl rfl h (by omega)
  · have h := h.2 hc
    refine dd_Rn.cI 4 (pc := 19) (ls := [.ref 148, .int (I 149 1), .null, .null, .null]) (st := [.int 63, .int 0, .ref 1000048, .ref 148]) (x := m_X11_after) (as := [.ref 148, .ref 1000048, .int 0, .int 63]) (rest := []) rfl rfl rfl rfl h ?_
    intro x1 I1 L1 h
    show dd_Rn (e + 16) m_X11_readBoy (22, [.ref 148, .int (I 149 1), .null, .null, .null], [.int x1], sM Ln I1 L1 c s) _
    refine dd_Rn.ite 2 (c := x1 < 0) (A := (35, [.ref 148, .int (I 149 1), .int x1, .null, .null], [], sM Ln I1 L1 c s)) (B := (27, [.ref 148, .int (I 149 1), .int x1, .null, .null], [], sM Ln I1 L1 c s)) rfl (fun hc => ?_) (fun hc => ?_) (by omega)
    · have h := h.1 hc
      exact dd_Rn.retK 1 (pc := 36) (ls := [.ref 148, .int (I 149 1), .int x1, .null, .null]) (st := [.int 0]) (M := sM Ln I1 L1 c s) (o := (none, .int 0, sM Ln I1 L1 c s)) rfl rfl h (by omega)
    · have h := h.2 hc
      refine dd_Rn.sub 2 (pc := 29) (ls := [.ref 148, .int (I 149 1), .int x1, .null, .null]) (st := [.int x1, .ref 148]) (M := sM Ln I1 L1 c s) (x := m_X11_hasTrees) (as := [.ref 148, .int x1]) (rest := []) rfl rfl rfl rfl ?_
      show dd_Rn (e + 15) m_X11_hasTrees (0, [.ref 148, .int x1], [], sM Ln I1 L1 c s) _
      obtain ⟨hc, h⟩ := h
      refine dd_Rn.go 5 (cf' := (8, [.ref 148, .int x1], [.int ((11 : Int32) + x1), .ref 149], sM Ln I1 L1 c s)) rfl ?_ (by omega)
      refine dd_Rn.ci (fun j0 => (8, [.ref 148, .int x1], [.int j0, .ref 149], sM Ln I1 L1 c s)) (fun j0 => (9, [.ref 148, .int x1], [.int (I1 149 (tn j0))], sM Ln I1 L1 c s)) (fun j0 => 0 ≤ j0 ∧ tn j0 < 2220) ((11 : Int32) + x1) (fun j0 hc h => dd_Rn.chk 0 (c := 0 ≤ j0 ∧ tn j0 < 2220) (A := (9, [.ref 148, .int x1], [.int (I1 149 (tn j0))], sM Ln I1 L1 c s)) rfl hc h (by omega)) hc ?_
      refine dd_Rn.se (cf := (9, [.ref 148, .int x1], [.int (I1 149 (tn ((11 : Int32) + x1)))], sM Ln I1 L1 c s)) ?_
      refine dd_Rn.ite 1 (c := I1 149 (tn ((11 : Int32) + x1)) = 1) (A := (13, [.ref 148, .int x1], [], sM Ln I1 L1 c s)) (B := (17, [.ref 148, .int x1], [], sM Ln I1 L1 c s)) rfl (fun hc => ?_) (fun hc => ?_) (by omega)
      · have h := h.1 hc
        refine dd_Rn.retK 2 (pc := 18) (ls := [.ref 148, .int x1]) (st := [.int 1]) (M := sM Ln I1 L1 c s) (o := (none, .int 1, sM Ln I1 L1 c s)) rfl rfl (dd_Af.ret rfl ?_) (by omega)
        show dd_Rn (e + 16) m_X11_readBoy (32, [.ref 148, .int (I 149 1), .int x1, .null, .null], [.int 1], sM Ln I1 L1 c s) _
        exact dd_Rn.retK 2 (pc := 36) (ls := [.ref 148, .int (I 149 1), .int x1, .null, .null]) (st := [.int 0]) (M := sM Ln I1 L1 c s) (o := (none, .int 0, sM Ln I1 L1 c s)) rfl rfl h (by omega)
      · have h := h.2 hc
        refine dd_Rn.retK 1 (pc := 18) (ls := [.ref 148, .int x1]) (st := [.int 0]) (M := sM Ln I1 L1 c s) (o := (none, .int 0, sM Ln I1 L1 c s)) rfl rfl (dd_Af.ret rfl ?_) (by omega)
        show dd_Rn (e + 16) m_X11_readBoy (32, [.ref 148, .int (I 149 1), .int x1, .null, .null], [.int 0], sM Ln I1 L1 c s) _
        refine dd_Rn.sub 5 (pc := 42) (ls := [.ref 148, .int (I 149 1), .int x1, .null, .null]) (st := [.ref 148, .int 0, .ref 1000049, .ref 148]) (M := sM Ln I1 L1 c s) (x := m_X11_parts) (as := [.ref 148]) (rest := [.int 0, .ref 1000049, .ref 148]) rfl rfl rfl rfl ?_
        show dd_Rn (e + 15) m_X11_parts (0, [.ref 148], [], sM Ln I1 L1 c s) _
        refine dd_Rn.retK 4 (pc := 6) (ls := [.ref 148]) (st := [.int (I1 149 0)]) (M := sM Ln I1 L1 c s) (o := (none, .int (I1 149 0), sM Ln I1 L1 c s)) rfl rfl (dd_Af.ret rfl ?_) (by omega)
        show dd_Rn (e + 16) m_X11_readBoy (45, [.ref 148, .int (I 149 1), .int x1, .null, .null], [.int (I1 149 0), .int 0, .ref 1000049, .ref 148], sM Ln I1 L1 c s) _
        refine dd_Rn.cI 2 (pc := 47) (ls := [.ref 148, .int (I 149 1), .int x1, .null, .null]) (st := [.int ((I1 149 0) - 1), .int 0, .ref 1000049, .ref 148]) (x := m_X11_after) (as := [.ref 148, .ref 1000049, .int 0, .int ((I1 149 0) - 1)]) (rest := []) rfl rfl rfl rfl h ?_
        intro x2 I2 L2 h
        show dd_Rn (e + 16) m_X11_readBoy (50, [.ref 148, .int (I 149 1), .int x1, .null, .null], [.int x2], sM Ln I2 L2 c s) _
        refine dd_Rn.ite 2 (c := (0 : Int32) ≤ x2) (A := (59, [.ref 148, .int (I 149 1), .int x1, .int x2, .null], [], sM Ln I2 L2 c s)) (B := (55, [.ref 148, .int (I 149 1), .int x1, .int x2, .null], [], sM Ln I2 L2 c s)) rfl (fun hc => ?_) (fun hc => ?_) (by omega)
        · have h := h.1 hc
          refine dd_Rn.cI 4 (pc := 65) (ls := [.ref 148, .int (I 149 1), .int x1, .int x2, .null]) (st := [.int 15, .int 0, .ref 1000050, .ref 148]) (x := m_X11_after) (as := [.ref 148, .ref 1000050, .int 0, .int 15]) (rest := []) rfl rfl rfl rfl h ?_
          intro x3 I3 L3 h
          show dd_Rn (e + 16) m_X11_readBoy (68, [.ref 148, .int (I 149 1), .int x1, .int x2, .null], [.int x3], sM Ln I3 L3 c s) _
          refine dd_Rn.ite 2 (c := (0 : Int32) ≤ x3) (A := (77, [.ref 148, .int (I 149 1), .int x1, .int x2, .int x3], [], sM Ln I3 L3 c s)) (B := (75, [.ref 148, .int (I 149 1), .int x1, .int x2, .int x3], [], sM Ln I3 L3 c s)) rfl (fun hc => ?_) (fun hc => ?_) (by omega)
          · have h := h.1 hc
            refine dd_Rn.sub 4 (pc := 83) (ls := [.ref 148, .int (I 149 1), .int x1, .int x2, .int x3]) (st := [.int 0, .int (I 149 1), .ref 149]) (M := sM Ln I3 L3 c s) (x := m_X11_at) (as := [.int (I 149 1), .int 0]) (rest := [.ref 149]) rfl rfl rfl rfl ?_
            show dd_Rn (e + 15) m_X11_at (0, [.int (I 149 1), .int 0], [], sM Ln I3 L3 c s) _
            refine dd_Rn.retK 7 (pc := 9) (ls := [.int (I 149 1), .int 0]) (st := [.int (((187 : Int32) + ((5 : Int32) * (I 149 1))) + 0)]) (M := sM Ln I3 L3 c s) (o := (none, .int (((187 : Int32) + ((5 : Int32) * (I 149 1))) + 0), sM Ln I3 L3 c s)) rfl rfl (dd_Af.ret rfl ?_) (by omega)
            show dd_Rn (e + 16) m_X11_readBoy (86, [.ref 148, .int (I 149 1), .int x1, .int x2, .int x3], [.int (((187 : Int32) + ((5 : Int32) * (I 149 1))) + 0), .ref 149], sM Ln I3 L3 c s) _
            obtain ⟨hc, h⟩ := h
            refine dd_Rn.go 1 (cf' := (87, [.ref 148, .int (I 149 1), .int x1, .int x2, .int x3], [.int x1, .int (((187 : Int32) + ((5 : Int32) * (I 149 1))) + 0), .ref 149], sM Ln I3 L3 c s)) rfl ?_ (by omega)
            refine dd_Rn.ci (fun j0 => (87, [.ref 148, .int (I 149 1), .int x1, .int x2, .int x3], [.int x1, .int j0, .ref 149], sM Ln I3 L3 c s)) (fun j0 => (88, [.ref 148, .int (I 149 1), .int x1, .int x2, .int x3], [], sM Ln (dd_u I3 149 (upd (I3 149) (tn j0) x1)) L3 c s)) (fun j0 => 0 ≤ j0 ∧ tn j0 < 2220) (((187 : Int32) + ((5 : Int32) * (I 149 1))) + 0) (fun j0 hc h => dd_Rn.chk 0 (c := 0 ≤ j0 ∧ tn j0 < 2220) (A := (88, [.ref 148, .int (I 149 1), .int x1, .int x2, .int x3], [], sM Ln (dd_u I3 149 (upd (I3 149) (tn j0) x1)) L3 c s)) rfl hc h (by omega)) hc ?_
            refine dd_Rn.se (cf := (88, [.ref 148, .int (I 149 1), .int x1, .int x2, .int x3], [], sM Ln (dd_u I3 149 (upd (I3 149) (tn (((187 : Int32) + ((5 : Int32) * (I 149 1))) + 0)) x1)) L3 c s)) ?_
            refine dd_Rn.sub 4 (pc := 94) (ls := [.ref 148, .int (I 149 1), .int x1, .int x2, .int x3]) (st := [.int 1, .int (I 149 1), .ref 149]) (M := sM Ln (dd_u I3 149 (upd (I3 149) (tn (((187 : Int32) + ((5 : Int32) * (I 149 1))) + 0)) x1)) L3 c s) (x := m_X11_at) (as := [.int (I 149 1), .int 1]) (rest := [.ref 149]) rfl rfl rfl rfl ?_
            show dd_Rn (e + 15) m_X11_at (0, [.int (I 149 1), .int 1], [], sM Ln (dd_u I3 149 (upd (I3 149) (tn (((187 : Int32) + ((5 : Int32) * (I 149 1))) + 0)) x1)) L3 c s) _
            refine dd_Rn.retK 7 (pc := 9) (ls := [.int (I 149 1), .int 1]) (st := [.int (((187 : Int32) + ((5 : Int32) * (I 149 1))) + 1)]) (M := sM Ln (dd_u I3 149 (upd (I3 149) (tn (((187 : Int32) + ((5 : Int32) * (I 149 1))) + 0)) x1)) L3 c s) (o := (none, .int (((187 : Int32) + ((5 : Int32) * (I 149 1))) + 1), sM Ln (dd_u I3 149 (upd (I3 149) (tn (((187 : Int32) + ((5 : Int32) * (I 149 1))) + 0)) x1)) L3 c s)) rfl rfl (dd_Af.ret rfl ?_) (by omega)
            show dd_Rn (e + 16) m_X11_readBoy (97, [.ref 148, .int (I 149 1), .int x1, .int x2, .int x3], [.int (((187 : Int32) + ((5 : Int32) * (I 149 1))) + 1), .ref 149], sM Ln (dd_u I3 149 (upd (I3 149) (tn (((187 : Int32) + ((5 : Int32) * (I 149 1))) + 0)) x1)) L3 c s) _
            obtain ⟨hc, h⟩ := h
            refine dd_Rn.go 1 (cf' := (98, [.ref 148, .int (I 149 1), .int x1, .int x2, .int x3], [.int x2, .int (((187 : Int32) + ((5 : Int32) * (I 149 1))) + 1), .ref 149], sM Ln (dd_u I3 149 (upd (I3 149) (tn (((187 : Int32) + ((5 : Int32) * (I 149 1))) + 0)) x1)) L3 c s)) rfl ?_ (by omega)
            refine dd_Rn.ci (fun j0 => (98, [.ref 148, .int (I 149 1), .int x1, .int x2, .int x3], [.int x2, .int j0, .ref 149], sM Ln (dd_u I3 149 (upd (I3 149) (tn (((187 : Int32) + ((5 : Int32) * (I 149 1))) + 0)) x1)) L3 c s)) (fun j0 => (99, [.ref 148, .int (I 149 1), .int x1, .int x2, .int x3], [], sM Ln (dd_u (dd_u I3 149 (upd (I3 149) (tn (((187 : Int32) + ((5 : Int32) * (I 149 1))) + 0)) x1)) 149 (upd (upd (I3 149) (tn (((187 : Int32) + ((5 : Int32) * (I 149 1))) + 0)) x1) (tn j0) x2)) L3 c s)) (fun j0 => 0 ≤ j0 ∧ tn j0 < 2220) (((187 : Int32) + ((5 : Int32) * (I 149 1))) + 1) (fun j0 hc h => dd_Rn.chk 0 (c := 0 ≤ j0 ∧ tn j0 < 2220) (A := (99, [.ref 148, .int (I 149 1), .int x1, .int x2, .int x3], [], sM Ln (dd_u (dd_u I3 149 (upd (I3 149) (tn (((187 : Int32) + ((5 : Int32) * (I 149 1))) + 0)) x1)) 149 (upd (upd (I3 149) (tn (((187 : Int32) + ((5 : Int32) * (I 149 1))) + 0)) x1) (tn j0) x2)) L3 c s)) rfl hc h (by omega)) hc ?_
            refine dd_Rn.se (cf := (99, [.ref 148, .int (I 149 1), .int x1, .int x2, .int x3], [], sM Ln (dd_u (dd_u I3 149 (upd (I3 149) (tn (((187 : Int32) + ((5 : Int32) * (I 149 1))) + 0)) x1)) 149 (upd (upd (I3 149) (tn (((187 : Int32) + ((5 : Int32) * (I 149 1))) + 0)) x1) (tn (((187 : Int32) + ((5 : Int32) * (I 149 1))) + 1)) x2)) L3 c s)) ?_
            refine dd_Rn.sub 4 (pc := 105) (ls := [.ref 148, .int (I 149 1), .int x1, .int x2, .int x3]) (st := [.int 2, .int (I 149 1), .ref 149]) (M := sM Ln (dd_u (dd_u I3 149 (upd (I3 149) (tn (((187 : Int32) + ((5 : Int32) * (I 149 1))) + 0)) x1)) 149 (upd (upd (I3 149) (tn (((187 : Int32) + ((5 : Int32) * (I 149 1))) + 0)) x1) (tn (((187 : Int32) + ((5 : Int32) * (I 149 1))) + 1)) x2)) L3 c s) (x := m_X11_at) (as := [.int (I 149 1), .int 2]) (rest := [.ref 149]) rfl rfl rfl rfl ?_
            show dd_Rn (e + 15) m_X11_at (0, [.int (I 149 1), .int 2], [], sM Ln (dd_u (dd_u I3 149 (upd (I3 149) (tn (((187 : Int32) + ((5 : Int32) * (I 149 1))) + 0)) x1)) 149 (upd (upd (I3 149) (tn (((187 : Int32) + ((5 : Int32) * (I 149 1))) + 0)) x1) (tn (((187 : Int32) + ((5 : Int32) * (I 149 1))) + 1)) x2)) L3 c s) _
            refine dd_Rn.retK 7 (pc := 9) (ls := [.int (I 149 1), .int 2]) (st := [.int (((187 : Int32) + ((5 : Int32) * (I 149 1))) + 2)]) (M := sM Ln (dd_u (dd_u I3 149 (upd (I3 149) (tn (((187 : Int32) + ((5 : Int32) * (I 149 1))) + 0)) x1)) 149 (upd (upd (I3 149) (tn (((187 : Int32) + ((5 : Int32) * (I 149 1))) + 0)) x1) (tn (((187 : Int32) + ((5 : Int32) * (I 149 1))) + 1)) x2)) L3 c s) (o := (none, .int (((187 : Int32) + ((5 : Int32) * (I 149 1))) + 2), sM Ln (dd_u (dd_u I3 149 (upd (I3 149) (tn (((187 : Int32) + ((5 : Int32) * (I 149 1))) + 0)) x1)) 149 (upd (upd (I3 149) (tn (((187 : Int32) + ((5 : Int32) * (I 149 1))) + 0)) x1) (tn (((187 : Int32) + ((5 : Int32) * (I 149 1))) + 1)) x2)) L3 c s)) rfl rfl (dd_Af.ret rfl ?_) (by omega)
            show dd_Rn (e + 16) m_X11_readBoy (108, [.ref 148, .int (I 149 1), .int x1, .int x2, .int x3], [.int (((187 : Int32) + ((5 : Int32) * (I 149 1))) + 2), .ref 149], sM Ln (dd_u (dd_u I3 149 (upd (I3 149) (tn (((187 : Int32) + ((5 : Int32) * (I 149 1))) + 0)) x1)) 149 (upd (upd (I3 149) (tn (((187 : Int32) + ((5 : Int32) * (I 149 1))) + 0)) x1) (tn (((187 : Int32) + ((5 : Int32) * (I 149 1))) + 1)) x2)) L3 c s) _
            obtain ⟨hc, h⟩ := h
            refine dd_Rn.go 1 (cf' := (110, [.ref 148, .int (I 149 1), .int x1, .int x2, .int x3], [.int x3, .int (((187 : Int32) + ((5 : Int32) * (I 149 1))) + 2), .ref 149], sM Ln (dd_u (dd_u I3 149 (upd (I3 149) (tn (((187 : Int32) + ((5 : Int32) * (I 149 1))) + 0)) x1)) 149 (upd (upd (I3 149) (tn (((187 : Int32) + ((5 : Int32) * (I 149 1))) + 0)) x1) (tn (((187 : Int32) + ((5 : Int32) * (I 149 1))) + 1)) x2)) L3 c s)) rfl ?_ (by omega)
            refine dd_Rn.ci (fun j0 => (110, [.ref 148, .int (I 149 1), .int x1, .int x2, .int x3], [.int x3, .int j0, .ref 149], sM Ln (dd_u (dd_u I3 149 (upd (I3 149) (tn (((187 : Int32) + ((5 : Int32) * (I 149 1))) + 0)) x1)) 149 (upd (upd (I3 149) (tn (((187 : Int32) + ((5 : Int32) * (I 149 1))) + 0)) x1) (tn (((187 : Int32) + ((5 : Int32) * (I 149 1))) + 1)) x2)) L3 c s)) (fun j0 => (111, [.ref 148, .int (I 149 1), .int x1, .int x2, .int x3], [], sM Ln (dd_u (dd_u (dd_u I3 149 (upd (I3 149) (tn (((187 : Int32) + ((5 : Int32) * (I 149 1))) + 0)) x1)) 149 (upd (upd (I3 149) (tn (((187 : Int32) + ((5 : Int32) * (I 149 1))) + 0)) x1) (tn (((187 : Int32) + ((5 : Int32) * (I 149 1))) + 1)) x2)) 149 (upd (upd (upd (I3 149) (tn (((187 : Int32) + ((5 : Int32) * (I 149 1))) + 0)) x1) (tn (((187 : Int32) + ((5 : Int32) * (I 149 1))) + 1)) x2) (tn j0) x3)) L3 c s)) (fun j0 => 0 ≤ j0 ∧ tn j0 < 2220) (((187 : Int32) + ((5 : Int32) * (I 149 1))) + 2) (fun j0 hc h => dd_Rn.chk 0 (c := 0 ≤ j0 ∧ tn j0 < 2220) (A := (111, [.ref 148, .int (I 149 1), .int x1, .int x2, .int x3], [], sM Ln (dd_u (dd_u (dd_u I3 149 (upd (I3 149) (tn (((187 : Int32) + ((5 : Int32) * (I 149 1))) + 0)) x1)) 149 (upd (upd (I3 149) (tn (((187 : Int32) + ((5 : Int32) * (I 149 1))) + 0)) x1) (tn (((187 : Int32) + ((5 : Int32) * (I 149 1))) + 1)) x2)) 149 (upd (upd (upd (I3 149) (tn (((187 : Int32) + ((5 : Int32) * (I 149 1))) + 0)) x1) (tn (((187 : Int32) + ((5 : Int32) * (I 149 1))) + 1)) x2) (tn j0) x3)) L3 c s)) rfl hc h (by omega)) hc ?_
            refine dd_Rn.se (cf := (111, [.ref 148, .int (I 149 1), .int x1, .int x2, .int x3], [], sM Ln (dd_u (dd_u (dd_u I3 149 (upd (I3 149) (tn (((187 : Int32) + ((5 : Int32) * (I 149 1))) + 0)) x1)) 149 (upd (upd (I3 149) (tn (((187 : Int32) + ((5 : Int32) * (I 149 1))) + 0)) x1) (tn (((187 : Int32) + ((5 : Int32) * (I 149 1))) + 1)) x2)) 149 (upd (upd (upd (I3 149) (tn (((187 : Int32) + ((5 : Int32) * (I 149 1))) + 0)) x1) (tn (((187 : Int32) + ((5 : Int32) * (I 149 1))) + 1)) x2) (tn (((187 : Int32) + ((5 : Int32) * (I 149 1))) + 2)) x3)) L3 c s)) ?_
            refine dd_Rn.sub 4 (pc := 117) (ls := [.ref 148, .int (I 149 1), .int x1, .int x2, .int x3]) (st := [.int 3, .int (I 149 1), .ref 149]) (M := sM Ln (dd_u (dd_u (dd_u I3 149 (upd (I3 149) (tn (((187 : Int32) + ((5 : Int32) * (I 149 1))) + 0)) x1)) 149 (upd (upd (I3 149) (tn (((187 : Int32) + ((5 : Int32) * (I 149 1))) + 0)) x1) (tn (((187 : Int32) + ((5 : Int32) * (I 149 1))) + 1)) x2)) 149 (upd (upd (upd (I3 149) (tn (((187 : Int32) + ((5 : Int32) * (I 149 1))) + 0)) x1) (tn (((187 : Int32) + ((5 : Int32) * (I 149 1))) + 1)) x2) (tn (((187 : Int32) + ((5 : Int32) * (I 149 1))) + 2)) x3)) L3 c s) (x := m_X11_at) (as := [.int (I 149 1), .int 3]) (rest := [.ref 149]) rfl rfl rfl rfl ?_
            show dd_Rn (e + 15) m_X11_at (0, [.int (I 149 1), .int 3], [], sM Ln (dd_u (dd_u (dd_u I3 149 (upd (I3 149) (tn (((187 : Int32) + ((5 : Int32) * (I 149 1))) + 0)) x1)) 149 (upd (upd (I3 149) (tn (((187 : Int32) + ((5 : Int32) * (I 149 1))) + 0)) x1) (tn (((187 : Int32) + ((5 : Int32) * (I 149 1))) + 1)) x2)) 149 (upd (upd (upd (I3 149) (tn (((187 : Int32) + ((5 : Int32) * (I 149 1))) + 0)) x1) (tn (((187 : Int32) + ((5 : Int32) * (I 149 1))) + 1)) x2) (tn (((187 : Int32) + ((5 : Int32) * (I 149 1))) + 2)) x3)) L3 c s) _
            refine dd_Rn.retK 7 (pc := 9) (ls := [.int (I 149 1), .int 3]) (st := [.int (((187 : Int32) + ((5 : Int32) * (I 149 1))) + 3)]) (M := sM Ln (dd_u (dd_u (dd_u I3 149 (upd (I3 149) (tn (((187 : Int32) + ((5 : Int32) * (I 149 1))) + 0)) x1)) 149 (upd (upd (I3 149) (tn (((187 : Int32) + ((5 : Int32) * (I 149 1))) + 0)) x1) (tn (((187 : Int32) + ((5 : Int32) * (I 149 1))) + 1)) x2)) 149 (upd (upd (upd (I3 149) (tn (((187 : Int32) + ((5 : Int32) * (I 149 1))) + 0)) x1) (tn (((187 : Int32) + ((5 : Int32) * (I 149 1))) + 1)) x2) (tn (((187 : Int32) + ((5 : Int32) * (I 149 1))) + 2)) x3)) L3 c s) (o := (none, .int (((187 : Int32) + ((5 : Int32) * (I 149 1))) + 3), sM Ln (dd_u (dd_u (dd_u I3 149 (upd (I3 149) (tn (((187 : Int32) + ((5 : Int32) * (I 149 1))) + 0)) x1)) 149 (upd (upd (I3 149) (tn (((187 : Int32) + ((5 : Int32) * (I 149 1))) + 0)) x1) (tn (((187 : Int32) + ((5 : Int32) * (I 149 1))) + 1)) x2)) 149 (upd (upd (upd (I3 149) (tn (((187 : Int32) + ((5 : Int32) * (I 149 1))) + 0)) x1) (tn (((187 : Int32) + ((5 : Int32) * (I 149 1))) + 1)) x2) (tn (((187 : Int32) + ((5 : Int32) * (I 149 1))) + 2)) x3)) L3 c s)) rfl rfl (dd_Af.ret rfl ?_) (by omega)
            show dd_Rn (e + 16) m_X11_readBoy (120, [.ref 148, .int (I 149 1), .int x1, .int x2, .int x3], [.int (((187 : Int32) + ((5 : Int32) * (I 149 1))) + 3), .ref 149], sM Ln (dd_u (dd_u (dd_u I3 149 (upd (I3 149) (tn (((187 : Int32) + ((5 : Int32) * (I 149 1))) + 0)) x1)) 149 (upd (upd (I3 149) (tn (((187 : Int32) + ((5 : Int32) * (I 149 1))) + 0)) x1) (tn (((187 : Int32) + ((5 : Int32) * (I 149 1))) + 1)) x2)) 149 (upd (upd (upd (I3 149) (tn (((187 : Int32) + ((5 : Int32) * (I 149 1))) + 0)) x1) (tn (((187 : Int32) + ((5 : Int32) * (I 149 1))) + 1)) x2) (tn (((187 : Int32) + ((5 : Int32) * (I 149 1))) + 2)) x3)) L3 c s) _
            refine dd_Rn.ite 5 (c := x1 = (upd (upd (upd (I3 149) (tn (((187 : Int32) + ((5 : Int32) * (I 149 1))) + 0)) x1) (tn (((187 : Int32) + ((5 : Int32) * (I 149 1))) + 1)) x2) (tn (((187 : Int32) + ((5 : Int32) * (I 149 1))) + 2)) x3) 4) (A := (130, [.ref 148, .int (I 149 1), .int x1, .int x2, .int x3], [.int (((187 : Int32) + ((5 : Int32) * (I 149 1))) + 3), .ref 149], sM Ln (dd_u (dd_u (dd_u I3 149 (upd (I3 149) (tn (((187 : Int32) + ((5 : Int32) * (I 149 1))) + 0)) x1)) 149 (upd (upd (I3 149) (tn (((187 : Int32) + ((5 : Int32) * (I 149 1))) + 0)) x1) (tn (((187 : Int32) + ((5 : Int32) * (I 149 1))) + 1)) x2)) 149 (upd (upd (upd (I3 149) (tn (((187 : Int32) + ((5 : Int32) * (I 149 1))) + 0)) x1) (tn (((187 : Int32) + ((5 : Int32) * (I 149 1))) + 1)) x2) (tn (((187 : Int32) + ((5 : Int32) * (I 149 1))) + 2)) x3)) L3 c s)) (B := (134, [.ref 148, .int (I 149 1), .int x1, .int x2, .int x3], [.int (((187 : Int32) + ((5 : Int32) * (I 149 1))) + 3), .ref 149], sM Ln (dd_u (dd_u (dd_u I3 149 (upd (I3 149) (tn (((187 : Int32) + ((5 : Int32) * (I 149 1))) + 0)) x1)) 149 (upd (upd (I3 149) (tn (((187 : Int32) + ((5 : Int32) * (I 149 1))) + 0)) x1) (tn (((187 : Int32) + ((5 : Int32) * (I 149 1))) + 1)) x2)) 149 (upd (upd (upd (I3 149) (tn (((187 : Int32) + ((5 : Int32) * (I 149 1))) + 0)) x1) (tn (((187 : Int32) + ((5 : Int32) * (I 149 1))) + 1)) x2) (tn (((187 : Int32) + ((5 : Int32) * (I 149 1))) + 2)) x3)) L3 c s)) rfl (fun hc => ?_) (fun hc => ?_) (by omega)
            · have h := h.1 hc
              obtain ⟨hc, h⟩ := h
              refine dd_Rn.go 2 (cf' := (135, [.ref 148, .int (I 149 1), .int x1, .int x2, .int x3], [.int 1, .int (((187 : Int32) + ((5 : Int32) * (I 149 1))) + 3), .ref 149], sM Ln (dd_u (dd_u (dd_u I3 149 (upd (I3 149) (tn (((187 : Int32) + ((5 : Int32) * (I 149 1))) + 0)) x1)) 149 (upd (upd (I3 149) (tn (((187 : Int32) + ((5 : Int32) * (I 149 1))) + 0)) x1) (tn (((187 : Int32) + ((5 : Int32) * (I 149 1))) + 1)) x2)) 149 (upd (upd (upd (I3 149) (tn (((187 : Int32) + ((5 : Int32) * (I 149 1))) + 0)) x1) (tn (((187 : Int32) + ((5 : Int32) * (I 149 1))) + 1)) x2) (tn (((187 : Int32) + ((5 : Int32) * (I 149 1))) + 2)) x3)) L3 c s)) rfl ?_ (by omega)
              refine dd_Rn.ci (fun j0 => (135, [.ref 148, .int (I 149 1), .int x1, .int x2, .int x3], [.int 1, .int j0, .ref 149], sM Ln (dd_u (dd_u (dd_u I3 149 (upd (I3 149) (tn (((187 : Int32) + ((5 : Int32) * (I 149 1))) + 0)) x1)) 149 (upd (upd (I3 149) (tn (((187 : Int32) + ((5 : Int32) * (I 149 1))) + 0)) x1) (tn (((187 : Int32) + ((5 : Int32) * (I 149 1))) + 1)) x2)) 149 (upd (upd (upd (I3 149) (tn (((187 : Int32) + ((5 : Int32) * (I 149 1))) + 0)) x1) (tn (((187 : Int32) + ((5 : Int32) * (I 149 1))) + 1)) x2) (tn (((187 : Int32) + ((5 : Int32) * (I 149 1))) + 2)) x3)) L3 c s)) (fun j0 => (136, [.ref 148, .int (I 149 1), .int x1, .int x2, .int x3], [], sM Ln (dd_u (dd_u (dd_u (dd_u I3 149 (upd (I3 149) (tn (((187 : Int32) + ((5 : Int32) * (I 149 1))) + 0)) x1)) 149 (upd (upd (I3 149) (tn (((187 : Int32) + ((5 : Int32) * (I 149 1))) + 0)) x1) (tn (((187 : Int32) + ((5 : Int32) * (I 149 1))) + 1)) x2)) 149 (upd (upd (upd (I3 149) (tn (((187 : Int32) + ((5 : Int32) * (I 149 1))) + 0)) x1) (tn (((187 : Int32) + ((5 : Int32) * (I 149 1))) + 1)) x2) (tn (((187 : Int32) + ((5 : Int32) * (I 149 1))) + 2)) x3)) 149 (upd (upd (upd (upd (I3 149) (tn (((187 : Int32) + ((5 : Int32) * (I 149 1))) + 0)) x1) (tn (((187 : Int32) + ((5 : Int32) * (I 149 1))) + 1)) x2) (tn (((187 : Int32) + ((5 : Int32) * (I 149 1))) + 2)) x3) (tn j0) 1)) L3 c s)) (fun j0 => 0 ≤ j0 ∧ tn j0 < 2220) (((187 : Int32) + ((5 : Int32) * (I 149 1))) + 3) (fun j0 hc h => dd_Rn.chk 0 (c := 0 ≤ j0 ∧ tn j0 < 2220) (A := (136, [.ref 148, .int (I 149 1), .int x1, .int x2, .int x3], [], sM Ln (dd_u (dd_u (dd_u (dd_u I3 149 (upd (I3 149) (tn (((187 : Int32) + ((5 : Int32) * (I 149 1))) + 0)) x1)) 149 (upd (upd (I3 149) (tn (((187 : Int32) + ((5 : Int32) * (I 149 1))) + 0)) x1) (tn (((187 : Int32) + ((5 : Int32) * (I 149 1))) + 1)) x2)) 149 (upd (upd (upd (I3 149) (tn (((187 : Int32) + ((5 : Int32) * (I 149 1))) + 0)) x1) (tn (((187 : Int32) + ((5 : Int32) * (I 149 1))) + 1)) x2) (tn (((187 : Int32) + ((5 : Int32) * (I 149 1))) + 2)) x3)) 149 (upd (upd (upd (upd (I3 149) (tn (((187 : Int32) + ((5 : Int32) * (I 149 1))) + 0)) x1) (tn (((187 : Int32) + ((5 : Int32) * (I 149 1))) + 1)) x2) (tn (((187 : Int32) + ((5 : Int32) * (I 149 1))) + 2)) x3) (tn j0) 1)) L3 c s)) rfl hc h (by omega)) hc ?_
              refine dd_Rn.se (cf := (136, [.ref 148, .int (I 149 1), .int x1, .int x2, .int x3], [], sM Ln (dd_u (dd_u (dd_u (dd_u I3 149 (upd (I3 149) (tn (((187 : Int32) + ((5 : Int32) * (I 149 1))) + 0)) x1)) 149 (upd (upd (I3 149) (tn (((187 : Int32) + ((5 : Int32) * (I 149 1))) + 0)) x1) (tn (((187 : Int32) + ((5 : Int32) * (I 149 1))) + 1)) x2)) 149 (upd (upd (upd (I3 149) (tn (((187 : Int32) + ((5 : Int32) * (I 149 1))) + 0)) x1) (tn (((187 : Int32) + ((5 : Int32) * (I 149 1))) + 1)) x2) (tn (((187 : Int32) + ((5 : Int32) * (I 149 1))) + 2)) x3)) 149 (upd (upd (upd (upd (I3 149) (tn (((187 : Int32) + ((5 : Int32) * (I 149 1))) + 0)) x1) (tn (((187 : Int32) + ((5 : Int32) * (I 149 1))) + 1)) x2) (tn (((187 : Int32) + ((5 : Int32) * (I 149 1))) + 2)) x3) (tn (((187 : Int32) + ((5 : Int32) * (I 149 1))) + 3)) 1)) L3 c s)) ?_
              refine dd_Rn.sub 4 (pc := 142) (ls := [.ref 148, .int (I 149 1), .int x1, .int x2, .int x3]) (st := [.int 4, .int (I 149 1), .ref 149]) (M := sM Ln (dd_u (dd_u (dd_u (dd_u I3 149 (upd (I3 149) (tn (((187 : Int32) + ((5 : Int32) * (I 149 1))) + 0)) x1)) 149 (upd (upd (I3 149) (tn (((187 : Int32) + ((5 : Int32) * (I 149 1))) + 0)) x1) (tn (((187 : Int32) + ((5 : Int32) * (I 149 1))) + 1)) x2)) 149 (upd (upd (upd (I3 149) (tn (((187 : Int32) + ((5 : Int32) * (I 149 1))) + 0)) x1) (tn (((187 : Int32) + ((5 : Int32) * (I 149 1))) + 1)) x2) (tn (((187 : Int32) + ((5 : Int32) * (I 149 1))) + 2)) x3)) 149 (upd (upd (upd (upd (I3 149) (tn (((187 : Int32) + ((5 : Int32) * (I 149 1))) + 0)) x1) (tn (((187 : Int32) + ((5 : Int32) * (I 149 1))) + 1)) x2) (tn (((187 : Int32) + ((5 : Int32) * (I 149 1))) + 2)) x3) (tn (((187 : Int32) + ((5 : Int32) * (I 149 1))) + 3)) 1)) L3 c s) (x := m_X11_at) (as := [.int (I 149 1), .int 4]) (rest := [.ref 149]) rfl rfl rfl rfl ?_
              show dd_Rn (e + 15) m_X11_at (0, [.int (I 149 1), .int 4], [], sM Ln (dd_u (dd_u (dd_u (dd_u I3 149 (upd (I3 149) (tn (((187 : Int32) + ((5 : Int32) * (I 149 1))) + 0)) x1)) 149 (upd (upd (I3 149) (tn (((187 : Int32) + ((5 : Int32) * (I 149 1))) + 0)) x1) (tn (((187 : Int32) + ((5 : Int32) * (I 149 1))) + 1)) x2)) 149 (upd (upd (upd (I3 149) (tn (((187 : Int32) + ((5 : Int32) * (I 149 1))) + 0)) x1) (tn (((187 : Int32) + ((5 : Int32) * (I 149 1))) + 1)) x2) (tn (((187 : Int32) + ((5 : Int32) * (I 149 1))) + 2)) x3)) 149 (upd (upd (upd (upd (I3 149) (tn (((187 : Int32) + ((5 : Int32) * (I 149 1))) + 0)) x1) (tn (((187 : Int32) + ((5 : Int32) * (I 149 1))) + 1)) x2) (tn (((187 : Int32) + ((5 : Int32) * (I 149 1))) + 2)) x3) (tn (((187 : Int32) + ((5 : Int32) * (I 149 1))) + 3)) 1)) L3 c s) _
              refine dd_Rn.retK 7 (pc := 9) (ls := [.int (I 149 1), .int 4]) (st := [.int (((187 : Int32) + ((5 : Int32) * (I 149 1))) + 4)]) (M := sM Ln (dd_u (dd_u (dd_u (dd_u I3 149 (upd (I3 149) (tn (((187 : Int32) + ((5 : Int32) * (I 149 1))) + 0)) x1)) 149 (upd (upd (I3 149) (tn (((187 : Int32) + ((5 : Int32) * (I 149 1))) + 0)) x1) (tn (((187 : Int32) + ((5 : Int32) * (I 149 1))) + 1)) x2)) 149 (upd (upd (upd (I3 149) (tn (((187 : Int32) + ((5 : Int32) * (I 149 1))) + 0)) x1) (tn (((187 : Int32) + ((5 : Int32) * (I 149 1))) + 1)) x2) (tn (((187 : Int32) + ((5 : Int32) * (I 149 1))) + 2)) x3)) 149 (upd (upd (upd (upd (I3 149) (tn (((187 : Int32) + ((5 : Int32) * (I 149 1))) + 0)) x1) (tn (((187 : Int32) + ((5 : Int32) * (I 149 1))) + 1)) x2) (tn (((187 : Int32) + ((5 : Int32) * (I 149 1))) + 2)) x3) (tn (((187 : Int32) + ((5 : Int32) * (I 149 1))) + 3)) 1)) L3 c s) (o := (none, .int (((187 : Int32) + ((5 : Int32) * (I 149 1))) + 4), sM Ln (dd_u (dd_u (dd_u (dd_u I3 149 (upd (I3 149) (tn (((187 : Int32) + ((5 : Int32) * (I 149 1))) + 0)) x1)) 149 (upd (upd (I3 149) (tn (((187 : Int32) + ((5 : Int32) * (I 149 1))) + 0)) x1) (tn (((187 : Int32) + ((5 : Int32) * (I 149 1))) + 1)) x2)) 149 (upd (upd (upd (I3 149) (tn (((187 : Int32) + ((5 : Int32) * (I 149 1))) + 0)) x1) (tn (((187 : Int32) + ((5 : Int32) * (I 149 1))) + 1)) x2) (tn (((187 : Int32) + ((5 : Int32) * (I 149 1))) + 2)) x3)) 149 (upd (upd (upd (upd (I3 149) (tn (((187 : Int32) + ((5 : Int32) * (I 149 1))) + 0)) x1) (tn (((187 : Int32) + ((5 : Int32) * (I 149 1))) + 1)) x2) (tn (((187 : Int32) + ((5 : Int32) * (I 149 1))) + 2)) x3) (tn (((187 : Int32) + ((5 : Int32) * (I 149 1))) + 3)) 1)) L3 c s)) rfl rfl (dd_Af.ret rfl ?_) (by omega)
              show dd_Rn (e + 16) m_X11_readBoy (145, [.ref 148, .int (I 149 1), .int x1, .int x2, .int x3], [.int (((187 : Int32) + ((5 : Int32) * (I 149 1))) + 4), .ref 149], sM Ln (dd_u (dd_u (dd_u (dd_u I3 149 (upd (I3 149) (tn (((187 : Int32) + ((5 : Int32) * (I 149 1))) + 0)) x1)) 149 (upd (upd (I3 149) (tn (((187 : Int32) + ((5 : Int32) * (I 149 1))) + 0)) x1) (tn (((187 : Int32) + ((5 : Int32) * (I 149 1))) + 1)) x2)) 149 (upd (upd (upd (I3 149) (tn (((187 : Int32) + ((5 : Int32) * (I 149 1))) + 0)) x1) (tn (((187 : Int32) + ((5 : Int32) * (I 149 1))) + 1)) x2) (tn (((187 : Int32) + ((5 : Int32) * (I 149 1))) + 2)) x3)) 149 (upd (upd (upd (upd (I3 149) (tn (((187 : Int32) + ((5 : Int32) * (I 149 1))) + 0)) x1) (tn (((187 : Int32) + ((5 : Int32) * (I 149 1))) + 1)) x2) (tn (((187 : Int32) + ((5 : Int32) * (I 149 1))) + 2)) x3) (tn (((187 : Int32) + ((5 : Int32) * (I 149 1))) + 3)) 1)) L3 c s) _
              obtain ⟨hc, h⟩ := h
              refine dd_Rn.go 1 (cf' := (146, [.ref 148, .int (I 149 1), .int x1, .int x2, .int x3], [.int 0, .int (((187 : Int32) + ((5 : Int32) * (I 149 1))) + 4), .ref 149], sM Ln (dd_u (dd_u (dd_u (dd_u I3 149 (upd (I3 149) (tn (((187 : Int32) + ((5 : Int32) * (I 149 1))) + 0)) x1)) 149 (upd (upd (I3 149) (tn (((187 : Int32) + ((5 : Int32) * (I 149 1))) + 0)) x1) (tn (((187 : Int32) + ((5 : Int32) * (I 149 1))) + 1)) x2)) 149 (upd (upd (upd (I3 149) (tn (((187 : Int32) + ((5 : Int32) * (I 149 1))) + 0)) x1) (tn (((187 : Int32) + ((5 : Int32) * (I 149 1))) + 1)) x2) (tn (((187 : Int32) + ((5 : Int32) * (I 149 1))) + 2)) x3)) 149 (upd (upd (upd (upd (I3 149) (tn (((187 : Int32) + ((5 : Int32) * (I 149 1))) + 0)) x1) (tn (((187 : Int32) + ((5 : Int32) * (I 149 1))) + 1)) x2) (tn (((187 : Int32) + ((5 : Int32) * (I 149 1))) + 2)) x3) (tn (((187 : Int32) + ((5 : Int32) * (I 149 1))) + 3)) 1)) L3 c s)) rfl ?_ (by omega)
              refine dd_Rn.ci (fun j0 => (146, [.ref 148, .int (I 149 1), .int x1, .int x2, .int x3], [.int 0, .int j0, .ref 149], sM Ln (dd_u (dd_u (dd_u (dd_u I3 149 (upd (I3 149) (tn (((187 : Int32) + ((5 : Int32) * (I 149 1))) + 0)) x1)) 149 (upd (upd (I3 149) (tn (((187 : Int32) + ((5 : Int32) * (I 149 1))) + 0)) x1) (tn (((187 : Int32) + ((5 : Int32) * (I 149 1))) + 1)) x2)) 149 (upd (upd (upd (I3 149) (tn (((187 : Int32) + ((5 : Int32) * (I 149 1))) + 0)) x1) (tn (((187 : Int32) + ((5 : Int32) * (I 149 1))) + 1)) x2) (tn (((187 : Int32) + ((5 : Int32) * (I 149 1))) + 2)) x3)) 149 (upd (upd (upd (upd (I3 149) (tn (((187 : Int32) + ((5 : Int32) * (I 149 1))) + 0)) x1) (tn (((187 : Int32) + ((5 : Int32) * (I 149 1))) + 1)) x2) (tn (((187 : Int32) + ((5 : Int32) * (I 149 1))) + 2)) x3) (tn (((187 : Int32) + ((5 : Int32) * (I 149 1))) + 3)) 1)) L3 c s)) (fun j0 => (147, [.ref 148, .int (I 149 1), .int x1, .int x2, .int x3], [], sM Ln (dd_u (dd_u (dd_u (dd_u (dd_u I3 149 (upd (I3 149) (tn (((187 : Int32) + ((5 : Int32) * (I 149 1))) + 0)) x1)) 149 (upd (upd (I3 149) (tn (((187 : Int32) + ((5 : Int32) * (I 149 1))) + 0)) x1) (tn (((187 : Int32) + ((5 : Int32) * (I 149 1))) + 1)) x2)) 149 (upd (upd (upd (I3 149) (tn (((187 : Int32) + ((5 : Int32) * (I 149 1))) + 0)) x1) (tn (((187 : Int32) + ((5 : Int32) * (I 149 1))) + 1)) x2) (tn (((187 : Int32) + ((5 : Int32) * (I 149 1))) + 2)) x3)) 149 (upd (upd (upd (upd (I3 149) (tn (((187 : Int32) + ((5 : Int32) * (I 149 1))) + 0)) x1) (tn (((187 : Int32) + ((5 : Int32) * (I 149 1))) + 1)) x2) (tn (((187 : Int32) + ((5 : Int32) * (I 149 1))) + 2)) x3) (tn (((187 : Int32) + ((5 : Int32) * (I 149 1))) + 3)) 1)) 149 (upd (upd (upd (upd (upd (I3 149) (tn (((187 : Int32) + ((5 : Int32) * (I 149 1))) + 0)) x1) (tn (((187 : Int32) + ((5 : Int32) * (I 149 1))) + 1)) x2) (tn (((187 : Int32) + ((5 : Int32) * (I 149 1))) + 2)) x3) (tn (((187 : Int32) + ((5 : Int32) * (I 149 1))) + 3)) 1) (tn j0) 0)) L3 c s)) (fun j0 => 0 ≤ j0 ∧ tn j0 < 2220) (((187 : Int32) + ((5 : Int32) * (I 149 1))) + 4) (fun j0 hc h => dd_Rn.chk 0 (c := 0 ≤ j0 ∧ tn j0 < 2220) (A := (147, [.ref 148, .int (I 149 1), .int x1, .int x2, .int x3], [], sM Ln (dd_u (dd_u (dd_u (dd_u (dd_u I3 149 (upd (I3 149) (tn (((187 : Int32) + ((5 : Int32) * (I 149 1))) + 0)) x1)) 149 (upd (upd (I3 149) (tn (((187 : Int32) + ((5 : Int32) * (I 149 1))) + 0)) x1) (tn (((187 : Int32) + ((5 : Int32) * (I 149 1))) + 1)) x2)) 149 (upd (upd (upd (I3 149) (tn (((187 : Int32) + ((5 : Int32) * (I 149 1))) + 0)) x1) (tn (((187 : Int32) + ((5 : Int32) * (I 149 1))) + 1)) x2) (tn (((187 : Int32) + ((5 : Int32) * (I 149 1))) + 2)) x3)) 149 (upd (upd (upd (upd (I3 149) (tn (((187 : Int32) + ((5 : Int32) * (I 149 1))) + 0)) x1) (tn (((187 : Int32) + ((5 : Int32) * (I 149 1))) + 1)) x2) (tn (((187 : Int32) + ((5 : Int32) * (I 149 1))) + 2)) x3) (tn (((187 : Int32) + ((5 : Int32) * (I 149 1))) + 3)) 1)) 149 (upd (upd (upd (upd (upd (I3 149) (tn (((187 : Int32) + ((5 : Int32) * (I 149 1))) + 0)) x1) (tn (((187 : Int32) + ((5 : Int32) * (I 149 1))) + 1)) x2) (tn (((187 : Int32) + ((5 : Int32) * (I 149 1))) + 2)) x3) (tn (((187 : Int32) + ((5 : Int32) * (I 149 1))) + 3)) 1) (tn j0) 0)) L3 c s)) rfl hc h (by omega)) hc ?_
              refine dd_Rn.se (cf := (147, [.ref 148, .int (I 149 1), .int x1, .int x2, .int x3], [], sM Ln (dd_u (dd_u (dd_u (dd_u (dd_u I3 149 (upd (I3 149) (tn (((187 : Int32) + ((5 : Int32) * (I 149 1))) + 0)) x1)) 149 (upd (upd (I3 149) (tn (((187 : Int32) + ((5 : Int32) * (I 149 1))) + 0)) x1) (tn (((187 : Int32) + ((5 : Int32) * (I 149 1))) + 1)) x2)) 149 (upd (upd (upd (I3 149) (tn (((187 : Int32) + ((5 : Int32) * (I 149 1))) + 0)) x1) (tn (((187 : Int32) + ((5 : Int32) * (I 149 1))) + 1)) x2) (tn (((187 : Int32) + ((5 : Int32) * (I 149 1))) + 2)) x3)) 149 (upd (upd (upd (upd (I3 149) (tn (((187 : Int32) + ((5 : Int32) * (I 149 1))) + 0)) x1) (tn (((187 : Int32) + ((5 : Int32) * (I 149 1))) + 1)) x2) (tn (((187 : Int32) + ((5 : Int32) * (I 149 1))) + 2)) x3) (tn (((187 : Int32) + ((5 : Int32) * (I 149 1))) + 3)) 1)) 149 (upd (upd (upd (upd (upd (I3 149) (tn (((187 : Int32) + ((5 : Int32) * (I 149 1))) + 0)) x1) (tn (((187 : Int32) + ((5 : Int32) * (I 149 1))) + 1)) x2) (tn (((187 : Int32) + ((5 : Int32) * (I 149 1))) + 2)) x3) (tn (((187 : Int32) + ((5 : Int32) * (I 149 1))) + 3)) 1) (tn (((187 : Int32) + ((5 : Int32) * (I 149 1))) + 4)) 0)) L3 c s)) ?_
              exact dd_Rn.retK 9 (pc := 158) (ls := [.ref 148, .int (I 149 1), .int x1, .int x2, .int x3]) (st := [.int 1]) (M := sM Ln (dd_u (dd_u (dd_u (dd_u (dd_u (dd_u I3 149 (upd (I3 149) (tn (((187 : Int32) + ((5 : Int32) * (I 149 1))) + 0)) x1)) 149 (upd (upd (I3 149) (tn (((187 : Int32) + ((5 : Int32) * (I 149 1))) + 0)) x1) (tn (((187 : Int32) + ((5 : Int32) * (I 149 1))) + 1)) x2)) 149 (upd (upd (upd (I3 149) (tn (((187 : Int32) + ((5 : Int32) * (I 149 1))) + 0)) x1) (tn (((187 : Int32) + ((5 : Int32) * (I 149 1))) + 1)) x2) (tn (((187 : Int32) + ((5 : Int32) * (I 149 1))) + 2)) x3)) 149 (upd (upd (upd (upd (I3 149) (tn (((187 : Int32) + ((5 : Int32) * (I 149 1))) + 0)) x1) (tn (((187 : Int32) + ((5 : Int32) * (I 149 1))) + 1)) x2) (tn (((187 : Int32) + ((5 : Int32) * (I 149 1))) + 2)) x3) (tn (((187 : Int32) + ((5 : Int32) * (I 149 1))) + 3)) 1)) 149 (upd (upd (upd (upd (upd (I3 149) (tn (((187 : Int32) + ((5 : Int32) * (I 149 1))) + 0)) x1) (tn (((187 : Int32) + ((5 : Int32) * (I 149 1))) + 1)) x2) (tn (((187 : Int32) + ((5 : Int32) * (I 149 1))) + 2)) x3) (tn (((187 : Int32) + ((5 : Int32) * (I 149 1))) + 3)) 1) (tn (((187 : Int32) + ((5 : Int32) * (I 149 1))) + 4)) 0)) 149 (upd (upd (upd (upd (upd (upd (I3 149) (tn (((187 : Int32) + ((5 : Int32) * (I 149 1))) + 0)) x1) (tn (((187 : Int32) + ((5 : Int32) * (I 149 1))) + 1)) x2) (tn (((187 : Int32) + ((5 : Int32) * (I 149 1))) + 2)) x3) (tn (((187 : Int32) + ((5 : Int32) * (I 149 1))) + 3)) 1) (tn (((187 : Int32) + ((5 : Int32) * (I 149 1))) + 4)) 0) 1 (((upd (upd (upd (upd (upd (I3 149) (tn (((187 : Int32) + ((5 : Int32) * (I 149 1))) + 0)) x1) (tn (((187 : Int32) + ((5 : Int32) * (I 149 1))) + 1)) x2) (tn (((187 : Int32) + ((5 : Int32) * (I 149 1))) + 2)) x3) (tn (((187 : Int32) + ((5 : Int32) * (I 149 1))) + 3)) 1) (tn (((187 : Int32) + ((5 : Int32) * (I 149 1))) + 4)) 0) 1) + 1))) L3 c s) (o := (none, .int 1, sM Ln (dd_u (dd_u (dd_u (dd_u (dd_u (dd_u I3 149 (upd (I3 149) (tn (((187 : Int32) + ((5 : Int32) * (I 149 1))) + 0)) x1)) 149 (upd (upd (I3 149) (tn (((187 : Int32) + ((5 : Int32) * (I 149 1))) + 0)) x1) (tn (((187 : Int32) + ((5 : Int32) * (I 149 1))) + 1)) x2)) 149 (upd (upd (upd (I3 149) (tn (((187 : Int32) + ((5 : Int32) * (I 149 1))) + 0)) x1) (tn (((187 : Int32) + ((5 : Int32) * (I 149 1))) + 1)) x2) (tn (((187 : Int32) + ((5 : Int32) * (I 149 1))) + 2)) x3)) 149 (upd (upd (upd (upd (I3 149) (tn (((187 : Int32) + ((5 : Int32) * (I 149 1))) + 0)) x1) (tn (((187 : Int32) + ((5 : Int32) * (I 149 1))) + 1)) x2) (tn (((187 : Int32) + ((5 : Int32) * (I 149 1))) + 2)) x3) (tn (((187 : Int32) + ((5 : Int32) * (I 149 1))) + 3)) 1)) 149 (upd (upd (upd (upd (upd (I3 149) (tn (((187 : Int32) + ((5 : Int32) * (I 149 1))) + 0)) x1) (tn (((187 : Int32) + ((5 : Int32) * (I 149 1))) + 1)) x2) (tn (((187 : Int32) + ((5 : Int32) * (I 149 1))) + 2)) x3) (tn (((187 : Int32) + ((5 : Int32) * (I 149 1))) + 3)) 1) (tn (((187 : Int32) + ((5 : Int32) * (I 149 1))) + 4)) 0)) 149 (upd (upd (upd (upd (upd (upd (I3 149) (tn (((187 : Int32) + ((5 : Int32) * (I 149 1))) + 0)) x1) (tn (((187 : Int32) + ((5 : Int32) * (I 149 1))) + 1)) x2) (tn (((187 : Int32) + ((5 : Int32) * (I 149 1))) + 2)) x3) (tn (((187 : Int32) + ((5 : Int32) * (I 149 1))) + 3)) 1) (tn (((187 : Int32) + ((5 : Int32) * (I 149 1))) + 4)) 0) 1 (((upd (upd (upd (upd (upd (I3 149) (tn (((187 : Int32) + ((5 : Int32) * (I 149 1))) + 0)) x1) (tn (((187 : Int32) + ((5 : Int32) * (I 149 1))) + 1)) x2) (tn (((187 : Int32) + ((5 : Int32) * (I 149 1))) + 2)) x3) (tn (((187 : Int32) + ((5 : Int32) * (I 149 1))) + 3)) 1) (tn (((187 : Int32) + ((5 : Int32) * (I 149 1))) + 4)) 0) 1) + 1))) L3 c s)) rfl rfl h (by omega)
            · have h := h.2 hc
              obtain ⟨hc, h⟩ := h
              refine dd_Rn.go 1 (cf' := (135, [.ref 148, .int (I 149 1), .int x1, .int x2, .int x3], [.int 0, .int (((187 : Int32) + ((5 : Int32) * (I 149 1))) + 3), .ref 149], sM Ln (dd_u (dd_u (dd_u I3 149 (upd (I3 149) (tn (((187 : Int32) + ((5 : Int32) * (I 149 1))) + 0)) x1)) 149 (upd (upd (I3 149) (tn (((187 : Int32) + ((5 : Int32) * (I 149 1))) + 0)) x1) (tn (((187 : Int32) + ((5 : Int32) * (I 149 1))) + 1)) x2)) 149 (upd (upd (upd (I3 149) (tn (((187 : Int32) + ((5 : Int32) * (I 149 1))) + 0)) x1) (tn (((187 : Int32) + ((5 : Int32) * (I 149 1))) + 1)) x2) (tn (((187 : Int32) + ((5 : Int32) * (I 149 1))) + 2)) x3)) L3 c s)) rfl ?_ (by omega)
              refine dd_Rn.ci (fun j0 => (135, [.ref 148, .int (I 149 1), .int x1, .int x2, .int x3], [.int 0, .int j0, .ref 149], sM Ln (dd_u (dd_u (dd_u I3 149 (upd (I3 149) (tn (((187 : Int32) + ((5 : Int32) * (I 149 1))) + 0)) x1)) 149 (upd (upd (I3 149) (tn (((187 : Int32) + ((5 : Int32) * (I 149 1))) + 0)) x1) (tn (((187 : Int32) + ((5 : Int32) * (I 149 1))) + 1)) x2)) 149 (upd (upd (upd (I3 149) (tn (((187 : Int32) + ((5 : Int32) * (I 149 1))) + 0)) x1) (tn (((187 : Int32) + ((5 : Int32) * (I 149 1))) + 1)) x2) (tn (((187 : Int32) + ((5 : Int32) * (I 149 1))) + 2)) x3)) L3 c s)) (fun j0 => (136, [.ref 148, .int (I 149 1), .int x1, .int x2, .int x3], [], sM Ln (dd_u (dd_u (dd_u (dd_u I3 149 (upd (I3 149) (tn (((187 : Int32) + ((5 : Int32) * (I 149 1))) + 0)) x1)) 149 (upd (upd (I3 149) (tn (((187 : Int32) + ((5 : Int32) * (I 149 1))) + 0)) x1) (tn (((187 : Int32) + ((5 : Int32) * (I 149 1))) + 1)) x2)) 149 (upd (upd (upd (I3 149) (tn (((187 : Int32) + ((5 : Int32) * (I 149 1))) + 0)) x1) (tn (((187 : Int32) + ((5 : Int32) * (I 149 1))) + 1)) x2) (tn (((187 : Int32) + ((5 : Int32) * (I 149 1))) + 2)) x3)) 149 (upd (upd (upd (upd (I3 149) (tn (((187 : Int32) + ((5 : Int32) * (I 149 1))) + 0)) x1) (tn (((187 : Int32) + ((5 : Int32) * (I 149 1))) + 1)) x2) (tn (((187 : Int32) + ((5 : Int32) * (I 149 1))) + 2)) x3) (tn j0) 0)) L3 c s)) (fun j0 => 0 ≤ j0 ∧ tn j0 < 2220) (((187 : Int32) + ((5 : Int32) * (I 149 1))) + 3) (fun j0 hc h => dd_Rn.chk 0 (c := 0 ≤ j0 ∧ tn j0 < 2220) (A := (136, [.ref 148, .int (I 149 1), .int x1, .int x2, .int x3], [], sM Ln (dd_u (dd_u (dd_u (dd_u I3 149 (upd (I3 149) (tn (((187 : Int32) + ((5 : Int32) * (I 149 1))) + 0)) x1)) 149 (upd (upd (I3 149) (tn (((187 : Int32) + ((5 : Int32) * (I 149 1))) + 0)) x1) (tn (((187 : Int32) + ((5 : Int32) * (I 149 1))) + 1)) x2)) 149 (upd (upd (upd (I3 149) (tn (((187 : Int32) + ((5 : Int32) * (I 149 1))) + 0)) x1) (tn (((187 : Int32) + ((5 : Int32) * (I 149 1))) + 1)) x2) (tn (((187 : Int32) + ((5 : Int32) * (I 149 1))) + 2)) x3)) 149 (upd (upd (upd (upd (I3 149) (tn (((187 : Int32) + ((5 : Int32) * (I 149 1))) + 0)) x1) (tn (((187 : Int32) + ((5 : Int32) * (I 149 1))) + 1)) x2) (tn (((187 : Int32) + ((5 : Int32) * (I 149 1))) + 2)) x3) (tn j0) 0)) L3 c s)) rfl hc h (by omega)) hc ?_
              refine dd_Rn.se (cf := (136, [.ref 148, .int (I 149 1), .int x1, .int x2, .int x3], [], sM Ln (dd_u (dd_u (dd_u (dd_u I3 149 (upd (I3 149) (tn (((187 : Int32) + ((5 : Int32) * (I 149 1))) + 0)) x1)) 149 (upd (upd (I3 149) (tn (((187 : Int32) + ((5 : Int32) * (I 149 1))) + 0)) x1) (tn (((187 : Int32) + ((5 : Int32) * (I 149 1))) + 1)) x2)) 149 (upd (upd (upd (I3 149) (tn (((187 : Int32) + ((5 : Int32) * (I 149 1))) + 0)) x1) (tn (((187 : Int32) + ((5 : Int32) * (I 149 1))) + 1)) x2) (tn (((187 : Int32) + ((5 : Int32) * (I 149 1))) + 2)) x3)) 149 (upd (upd (upd (upd (I3 149) (tn (((187 : Int32) + ((5 : Int32) * (I 149 1))) + 0)) x1) (tn (((187 : Int32) + ((5 : Int32) * (I 149 1))) + 1)) x2) (tn (((187 : Int32) + ((5 : Int32) * (I 149 1))) + 2)) x3) (tn (((187 : Int32) + ((5 : Int32) * (I 149 1))) + 3)) 0)) L3 c s)) ?_
              refine dd_Rn.sub 4 (pc := 142) (ls := [.ref 148, .int (I 149 1), .int x1, .int x2, .int x3]) (st := [.int 4, .int (I 149 1), .ref 149]) (M := sM Ln (dd_u (dd_u (dd_u (dd_u I3 149 (upd (I3 149) (tn (((187 : Int32) + ((5 : Int32) * (I 149 1))) + 0)) x1)) 149 (upd (upd (I3 149) (tn (((187 : Int32) + ((5 : Int32) * (I 149 1))) + 0)) x1) (tn (((187 : Int32) + ((5 : Int32) * (I 149 1))) + 1)) x2)) 149 (upd (upd (upd (I3 149) (tn (((187 : Int32) + ((5 : Int32) * (I 149 1))) + 0)) x1) (tn (((187 : Int32) + ((5 : Int32) * (I 149 1))) + 1)) x2) (tn (((187 : Int32) + ((5 : Int32) * (I 149 1))) + 2)) x3)) 149 (upd (upd (upd (upd (I3 149) (tn (((187 : Int32) + ((5 : Int32) * (I 149 1))) + 0)) x1) (tn (((187 : Int32) + ((5 : Int32) * (I 149 1))) + 1)) x2) (tn (((187 : Int32) + ((5 : Int32) * (I 149 1))) + 2)) x3) (tn (((187 : Int32) + ((5 : Int32) * (I 149 1))) + 3)) 0)) L3 c s) (x := m_X11_at) (as := [.int (I 149 1), .int 4]) (rest := [.ref 149]) rfl rfl rfl rfl ?_
              show dd_Rn (e + 15) m_X11_at (0, [.int (I 149 1), .int 4], [], sM Ln (dd_u (dd_u (dd_u (dd_u I3 149 (upd (I3 149) (tn (((187 : Int32) + ((5 : Int32) * (I 149 1))) + 0)) x1)) 149 (upd (upd (I3 149) (tn (((187 : Int32) + ((5 : Int32) * (I 149 1))) + 0)) x1) (tn (((187 : Int32) + ((5 : Int32) * (I 149 1))) + 1)) x2)) 149 (upd (upd (upd (I3 149) (tn (((187 : Int32) + ((5 : Int32) * (I 149 1))) + 0)) x1) (tn (((187 : Int32) + ((5 : Int32) * (I 149 1))) + 1)) x2) (tn (((187 : Int32) + ((5 : Int32) * (I 149 1))) + 2)) x3)) 149 (upd (upd (upd (upd (I3 149) (tn (((187 : Int32) + ((5 : Int32) * (I 149 1))) + 0)) x1) (tn (((187 : Int32) + ((5 : Int32) * (I 149 1))) + 1)) x2) (tn (((187 : Int32) + ((5 : Int32) * (I 149 1))) + 2)) x3) (tn (((187 : Int32) + ((5 : Int32) * (I 149 1))) + 3)) 0)) L3 c s) _
              refine dd_Rn.retK 7 (pc := 9) (ls := [.int (I 149 1), .int 4]) (st := [.int (((187 : Int32) + ((5 : Int32) * (I 149 1))) + 4)]) (M := sM Ln (dd_u (dd_u (dd_u (dd_u I3 149 (upd (I3 149) (tn (((187 : Int32) + ((5 : Int32) * (I 149 1))) + 0)) x1)) 149 (upd (upd (I3 149) (tn (((187 : Int32) + ((5 : Int32) * (I 149 1))) + 0)) x1) (tn (((187 : Int32) + ((5 : Int32) * (I 149 1))) + 1)) x2)) 149 (upd (upd (upd (I3 149) (tn (((187 : Int32) + ((5 : Int32) * (I 149 1))) + 0)) x1) (tn (((187 : Int32) + ((5 : Int32) * (I 149 1))) + 1)) x2) (tn (((187 : Int32) + ((5 : Int32) * (I 149 1))) + 2)) x3)) 149 (upd (upd (upd (upd (I3 149) (tn (((187 : Int32) + ((5 : Int32) * (I 149 1))) + 0)) x1) (tn (((187 : Int32) + ((5 : Int32) * (I 149 1))) + 1)) x2) (tn (((187 : Int32) + ((5 : Int32) * (I 149 1))) + 2)) x3) (tn (((187 : Int32) + ((5 : Int32) * (I 149 1))) + 3)) 0)) L3 c s) (o := (none, .int (((187 : Int32) + ((5 : Int32) * (I 149 1))) + 4), sM Ln (dd_u (dd_u (dd_u (dd_u I3 149 (upd (I3 149) (tn (((187 : Int32) + ((5 : Int32) * (I 149 1))) + 0)) x1)) 149 (upd (upd (I3 149) (tn (((187 : Int32) + ((5 : Int32) * (I 149 1))) + 0)) x1) (tn (((187 : Int32) + ((5 : Int32) * (I 149 1))) + 1)) x2)) 149 (upd (upd (upd (I3 149) (tn (((187 : Int32) + ((5 : Int32) * (I 149 1))) + 0)) x1) (tn (((187 : Int32) + ((5 : Int32) * (I 149 1))) + 1)) x2) (tn (((187 : Int32) + ((5 : Int32) * (I 149 1))) + 2)) x3)) 149 (upd (upd (upd (upd (I3 149) (tn (((187 : Int32) + ((5 : Int32) * (I 149 1))) + 0)) x1) (tn (((187 : Int32) + ((5 : Int32) * (I 149 1))) + 1)) x2) (tn (((187 : Int32) + ((5 : Int32) * (I 149 1))) + 2)) x3) (tn (((187 : Int32) + ((5 : Int32) * (I 149 1))) + 3)) 0)) L3 c s)) rfl rfl (dd_Af.ret rfl ?_) (by omega)
              show dd_Rn (e + 16) m_X11_readBoy (145, [.ref 148, .int (I 149 1), .int x1, .int x2, .int x3], [.int (((187 : Int32) + ((5 : Int32) * (I 149 1))) + 4), .ref 149], sM Ln (dd_u (dd_u (dd_u (dd_u I3 149 (upd (I3 149) (tn (((187 : Int32) + ((5 : Int32) * (I 149 1))) + 0)) x1)) 149 (upd (upd (I3 149) (tn (((187 : Int32) + ((5 : Int32) * (I 149 1))) + 0)) x1) (tn (((187 : Int32) + ((5 : Int32) * (I 149 1))) + 1)) x2)) 149 (upd (upd (upd (I3 149) (tn (((187 : Int32) + ((5 : Int32) * (I 149 1))) + 0)) x1) (tn (((187 : Int32) + ((5 : Int32) * (I 149 1))) + 1)) x2) (tn (((187 : Int32) + ((5 : Int32) * (I 149 1))) + 2)) x3)) 149 (upd (upd (upd (upd (I3 149) (tn (((187 : Int32) + ((5 : Int32) * (I 149 1))) + 0)) x1) (tn (((187 : Int32) + ((5 : Int32) * (I 149 1))) + 1)) x2) (tn (((187 : Int32) + ((5 : Int32) * (I 149 1))) + 2)) x3) (tn (((187 : Int32) + ((5 : Int32) * (I 149 1))) + 3)) 0)) L3 c s) _
              obtain ⟨hc, h⟩ := h
              refine dd_Rn.go 1 (cf' := (146, [.ref 148, .int (I 149 1), .int x1, .int x2, .int x3], [.int 0, .int (((187 : Int32) + ((5 : Int32) * (I 149 1))) + 4), .ref 149], sM Ln (dd_u (dd_u (dd_u (dd_u I3 149 (upd (I3 149) (tn (((187 : Int32) + ((5 : Int32) * (I 149 1))) + 0)) x1)) 149 (upd (upd (I3 149) (tn (((187 : Int32) + ((5 : Int32) * (I 149 1))) + 0)) x1) (tn (((187 : Int32) + ((5 : Int32) * (I 149 1))) + 1)) x2)) 149 (upd (upd (upd (I3 149) (tn (((187 : Int32) + ((5 : Int32) * (I 149 1))) + 0)) x1) (tn (((187 : Int32) + ((5 : Int32) * (I 149 1))) + 1)) x2) (tn (((187 : Int32) + ((5 : Int32) * (I 149 1))) + 2)) x3)) 149 (upd (upd (upd (upd (I3 149) (tn (((187 : Int32) + ((5 : Int32) * (I 149 1))) + 0)) x1) (tn (((187 : Int32) + ((5 : Int32) * (I 149 1))) + 1)) x2) (tn (((187 : Int32) + ((5 : Int32) * (I 149 1))) + 2)) x3) (tn (((187 : Int32) + ((5 : Int32) * (I 149 1))) + 3)) 0)) L3 c s)) rfl ?_ (by omega)
              refine dd_Rn.ci (fun j0 => (146, [.ref 148, .int (I 149 1), .int x1, .int x2, .int x3], [.int 0, .int j0, .ref 149], sM Ln (dd_u (dd_u (dd_u (dd_u I3 149 (upd (I3 149) (tn (((187 : Int32) + ((5 : Int32) * (I 149 1))) + 0)) x1)) 149 (upd (upd (I3 149) (tn (((187 : Int32) + ((5 : Int32) * (I 149 1))) + 0)) x1) (tn (((187 : Int32) + ((5 : Int32) * (I 149 1))) + 1)) x2)) 149 (upd (upd (upd (I3 149) (tn (((187 : Int32) + ((5 : Int32) * (I 149 1))) + 0)) x1) (tn (((187 : Int32) + ((5 : Int32) * (I 149 1))) + 1)) x2) (tn (((187 : Int32) + ((5 : Int32) * (I 149 1))) + 2)) x3)) 149 (upd (upd (upd (upd (I3 149) (tn (((187 : Int32) + ((5 : Int32) * (I 149 1))) + 0)) x1) (tn (((187 : Int32) + ((5 : Int32) * (I 149 1))) + 1)) x2) (tn (((187 : Int32) + ((5 : Int32) * (I 149 1))) + 2)) x3) (tn (((187 : Int32) + ((5 : Int32) * (I 149 1))) + 3)) 0)) L3 c s)) (fun j0 => (147, [.ref 148, .int (I 149 1), .int x1, .int x2, .int x3], [], sM Ln (dd_u (dd_u (dd_u (dd_u (dd_u I3 149 (upd (I3 149) (tn (((187 : Int32) + ((5 : Int32) * (I 149 1))) + 0)) x1)) 149 (upd (upd (I3 149) (tn (((187 : Int32) + ((5 : Int32) * (I 149 1))) + 0)) x1) (tn (((187 : Int32) + ((5 : Int32) * (I 149 1))) + 1)) x2)) 149 (upd (upd (upd (I3 149) (tn (((187 : Int32) + ((5 : Int32) * (I 149 1))) + 0)) x1) (tn (((187 : Int32) + ((5 : Int32) * (I 149 1))) + 1)) x2) (tn (((187 : Int32) + ((5 : Int32) * (I 149 1))) + 2)) x3)) 149 (upd (upd (upd (upd (I3 149) (tn (((187 : Int32) + ((5 : Int32) * (I 149 1))) + 0)) x1) (tn (((187 : Int32) + ((5 : Int32) * (I 149 1))) + 1)) x2) (tn (((187 : Int32) + ((5 : Int32) * (I 149 1))) + 2)) x3) (tn (((187 : Int32) + ((5 : Int32) * (I 149 1))) + 3)) 0)) 149 (upd (upd (upd (upd (upd (I3 149) (tn (((187 : Int32) + ((5 : Int32) * (I 149 1))) + 0)) x1) (tn (((187 : Int32) + ((5 : Int32) * (I 149 1))) + 1)) x2) (tn (((187 : Int32) + ((5 : Int32) * (I 149 1))) + 2)) x3) (tn (((187 : Int32) + ((5 : Int32) * (I 149 1))) + 3)) 0) (tn j0) 0)) L3 c s)) (fun j0 => 0 ≤ j0 ∧ tn j0 < 2220) (((187 : Int32) + ((5 : Int32) * (I 149 1))) + 4) (fun j0 hc h => dd_Rn.chk 0 (c := 0 ≤ j0 ∧ tn j0 < 2220) (A := (147, [.ref 148, .int (I 149 1), .int x1, .int x2, .int x3], [], sM Ln (dd_u (dd_u (dd_u (dd_u (dd_u I3 149 (upd (I3 149) (tn (((187 : Int32) + ((5 : Int32) * (I 149 1))) + 0)) x1)) 149 (upd (upd (I3 149) (tn (((187 : Int32) + ((5 : Int32) * (I 149 1))) + 0)) x1) (tn (((187 : Int32) + ((5 : Int32) * (I 149 1))) + 1)) x2)) 149 (upd (upd (upd (I3 149) (tn (((187 : Int32) + ((5 : Int32) * (I 149 1))) + 0)) x1) (tn (((187 : Int32) + ((5 : Int32) * (I 149 1))) + 1)) x2) (tn (((187 : Int32) + ((5 : Int32) * (I 149 1))) + 2)) x3)) 149 (upd (upd (upd (upd (I3 149) (tn (((187 : Int32) + ((5 : Int32) * (I 149 1))) + 0)) x1) (tn (((187 : Int32) + ((5 : Int32) * (I 149 1))) + 1)) x2) (tn (((187 : Int32) + ((5 : Int32) * (I 149 1))) + 2)) x3) (tn (((187 : Int32) + ((5 : Int32) * (I 149 1))) + 3)) 0)) 149 (upd (upd (upd (upd (upd (I3 149) (tn (((187 : Int32) + ((5 : Int32) * (I 149 1))) + 0)) x1) (tn (((187 : Int32) + ((5 : Int32) * (I 149 1))) + 1)) x2) (tn (((187 : Int32) + ((5 : Int32) * (I 149 1))) + 2)) x3) (tn (((187 : Int32) + ((5 : Int32) * (I 149 1))) + 3)) 0) (tn j0) 0)) L3 c s)) rfl hc h (by omega)) hc ?_
              refine dd_Rn.se (cf := (147, [.ref 148, .int (I 149 1), .int x1, .int x2, .int x3], [], sM Ln (dd_u (dd_u (dd_u (dd_u (dd_u I3 149 (upd (I3 149) (tn (((187 : Int32) + ((5 : Int32) * (I 149 1))) + 0)) x1)) 149 (upd (upd (I3 149) (tn (((187 : Int32) + ((5 : Int32) * (I 149 1))) + 0)) x1) (tn (((187 : Int32) + ((5 : Int32) * (I 149 1))) + 1)) x2)) 149 (upd (upd (upd (I3 149) (tn (((187 : Int32) + ((5 : Int32) * (I 149 1))) + 0)) x1) (tn (((187 : Int32) + ((5 : Int32) * (I 149 1))) + 1)) x2) (tn (((187 : Int32) + ((5 : Int32) * (I 149 1))) + 2)) x3)) 149 (upd (upd (upd (upd (I3 149) (tn (((187 : Int32) + ((5 : Int32) * (I 149 1))) + 0)) x1) (tn (((187 : Int32) + ((5 : Int32) * (I 149 1))) + 1)) x2) (tn (((187 : Int32) + ((5 : Int32) * (I 149 1))) + 2)) x3) (tn (((187 : Int32) + ((5 : Int32) * (I 149 1))) + 3)) 0)) 149 (upd (upd (upd (upd (upd (I3 149) (tn (((187 : Int32) + ((5 : Int32) * (I 149 1))) + 0)) x1) (tn (((187 : Int32) + ((5 : Int32) * (I 149 1))) + 1)) x2) (tn (((187 : Int32) + ((5 : Int32) * (I 149 1))) + 2)) x3) (tn (((187 : Int32) + ((5 : Int32) * (I 149 1))) + 3)) 0) (tn (((187 : Int32) + ((5 : Int32) * (I 149 1))) + 4)) 0)) L3 c s)) ?_
              exact dd_Rn.retK 9 (pc := 158) (ls := [.ref 148, .int (I 149 1), .int x1, .int x2, .int x3]) (st := [.int 1]) (M := sM Ln (dd_u (dd_u (dd_u (dd_u (dd_u (dd_u I3 149 (upd (I3 149) (tn (((187 : Int32) + ((5 : Int32) * (I 149 1))) + 0)) x1)) 149 (upd (upd (I3 149) (tn (((187 : Int32) + ((5 : Int32) * (I 149 1))) + 0)) x1) (tn (((187 : Int32) + ((5 : Int32) * (I 149 1))) + 1)) x2)) 149 (upd (upd (upd (I3 149) (tn (((187 : Int32) + ((5 : Int32) * (I 149 1))) + 0)) x1) (tn (((187 : Int32) + ((5 : Int32) * (I 149 1))) + 1)) x2) (tn (((187 : Int32) + ((5 : Int32) * (I 149 1))) + 2)) x3)) 149 (upd (upd (upd (upd (I3 149) (tn (((187 : Int32) + ((5 : Int32) * (I 149 1))) + 0)) x1) (tn (((187 : Int32) + ((5 : Int32) * (I 149 1))) + 1)) x2) (tn (((187 : Int32) + ((5 : Int32) * (I 149 1))) + 2)) x3) (tn (((187 : Int32) + ((5 : Int32) * (I 149 1))) + 3)) 0)) 149 (upd (upd (upd (upd (upd (I3 149) (tn (((187 : Int32) + ((5 : Int32) * (I 149 1))) + 0)) x1) (tn (((187 : Int32) + ((5 : Int32) * (I 149 1))) + 1)) x2) (tn (((187 : Int32) + ((5 : Int32) * (I 149 1))) + 2)) x3) (tn (((187 : Int32) + ((5 : Int32) * (I 149 1))) + 3)) 0) (tn (((187 : Int32) + ((5 : Int32) * (I 149 1))) + 4)) 0)) 149 (upd (upd (upd (upd (upd (upd (I3 149) (tn (((187 : Int32) + ((5 : Int32) * (I 149 1))) + 0)) x1) (tn (((187 : Int32) + ((5 : Int32) * (I 149 1))) + 1)) x2) (tn (((187 : Int32) + ((5 : Int32) * (I 149 1))) + 2)) x3) (tn (((187 : Int32) + ((5 : Int32) * (I 149 1))) + 3)) 0) (tn (((187 : Int32) + ((5 : Int32) * (I 149 1))) + 4)) 0) 1 (((upd (upd (upd (upd (upd (I3 149) (tn (((187 : Int32) + ((5 : Int32) * (I 149 1))) + 0)) x1) (tn (((187 : Int32) + ((5 : Int32) * (I 149 1))) + 1)) x2) (tn (((187 : Int32) + ((5 : Int32) * (I 149 1))) + 2)) x3) (tn (((187 : Int32) + ((5 : Int32) * (I 149 1))) + 3)) 0) (tn (((187 : Int32) + ((5 : Int32) * (I 149 1))) + 4)) 0) 1) + 1))) L3 c s) (o := (none, .int 1, sM Ln (dd_u (dd_u (dd_u (dd_u (dd_u (dd_u I3 149 (upd (I3 149) (tn (((187 : Int32) + ((5 : Int32) * (I 149 1))) + 0)) x1)) 149 (upd (upd (I3 149) (tn (((187 : Int32) + ((5 : Int32) * (I 149 1))) + 0)) x1) (tn (((187 : Int32) + ((5 : Int32) * (I 149 1))) + 1)) x2)) 149 (upd (upd (upd (I3 149) (tn (((187 : Int32) + ((5 : Int32) * (I 149 1))) + 0)) x1) (tn (((187 : Int32) + ((5 : Int32) * (I 149 1))) + 1)) x2) (tn (((187 : Int32) + ((5 : Int32) * (I 149 1))) + 2)) x3)) 149 (upd (upd (upd (upd (I3 149) (tn (((187 : Int32) + ((5 : Int32) * (I 149 1))) + 0)) x1) (tn (((187 : Int32) + ((5 : Int32) * (I 149 1))) + 1)) x2) (tn (((187 : Int32) + ((5 : Int32) * (I 149 1))) + 2)) x3) (tn (((187 : Int32) + ((5 : Int32) * (I 149 1))) + 3)) 0)) 149 (upd (upd (upd (upd (upd (I3 149) (tn (((187 : Int32) + ((5 : Int32) * (I 149 1))) + 0)) x1) (tn (((187 : Int32) + ((5 : Int32) * (I 149 1))) + 1)) x2) (tn (((187 : Int32) + ((5 : Int32) * (I 149 1))) + 2)) x3) (tn (((187 : Int32) + ((5 : Int32) * (I 149 1))) + 3)) 0) (tn (((187 : Int32) + ((5 : Int32) * (I 149 1))) + 4)) 0)) 149 (upd (upd (upd (upd (upd (upd (I3 149) (tn (((187 : Int32) + ((5 : Int32) * (I 149 1))) + 0)) x1) (tn (((187 : Int32) + ((5 : Int32) * (I 149 1))) + 1)) x2) (tn (((187 : Int32) + ((5 : Int32) * (I 149 1))) + 2)) x3) (tn (((187 : Int32) + ((5 : Int32) * (I 149 1))) + 3)) 0) (tn (((187 : Int32) + ((5 : Int32) * (I 149 1))) + 4)) 0) 1 (((upd (upd (upd (upd (upd (I3 149) (tn (((187 : Int32) + ((5 : Int32) * (I 149 1))) + 0)) x1) (tn (((187 : Int32) + ((5 : Int32) * (I 149 1))) + 1)) x2) (tn (((187 : Int32) + ((5 : Int32) * (I 149 1))) + 2)) x3) (tn (((187 : Int32) + ((5 : Int32) * (I 149 1))) + 3)) 0) (tn (((187 : Int32) + ((5 : Int32) * (I 149 1))) + 4)) 0) 1) + 1))) L3 c s)) rfl rfl h (by omega)
          · have h := h.2 hc
            exact dd_Rn.retK 1 (pc := 76) (ls := [.ref 148, .int (I 149 1), .int x1, .int x2, .int x3]) (st := [.int 0]) (M := sM Ln I3 L3 c s) (o := (none, .int 0, sM Ln I3 L3 c s)) rfl rfl h (by omega)
        · have h := h.2 hc
          exact dd_Rn.retK 6 (pc := 76) (ls := [.ref 148, .int (I 149 1), .int x1, .int x2, .int (-1)]) (st := [.int 0]) (M := sM Ln I2 L2 c s) (o := (none, .int 0, sM Ln I2 L2 c s)) rfl rfl h (by omega)

theorem w_X11_readTrees_0 {Ln d c s : Nat} {I : Nat → Nat → Int32} {L : Nat → Nat → Int64} {Q : dd_O → Prop} (hd : 28 ≤ d) (h : dd_Ev (d - 1) m_X11_number [.ref 148, .int 0, .int 63] (sM Ln I L c s) (dd_RI Ln c s (fun x1 I1 L1 => ((x1 < 0 → Q (none, .int 0, sM Ln I1 L1 c s)) ∧ (¬ (x1 < 0) → ((x1 = I1 149 4 → Q (none, .int 0, sM Ln I1 L1 c s)) ∧ (¬ (x1 = I1 149 4) → dd_Ev (d - 1) m_X11_isLostIn [.ref 148, .int x1] (sM Ln I1 L1 c s) (dd_RI Ln c s (fun x2 I2 L2 => ((x2 = 0 → ((0 ≤ (11 : Int32) + x1 ∧ tn ((11 : Int32) + x1) < 2220) ∧ Q (none, .int 1, sM Ln (dd_u I2 149 (upd (I2 149) (tn ((11 : Int32) + x1)) 1)) L2 c s))) ∧ (¬ (x2 = 0) → Q (none, .int 0, sM Ln I2 L2 c s)))))))))))) : dd_Ev d m_X11_readTrees [.ref 148] (sM Ln I L c s) Q := by
  obtain ⟨e, rfl⟩ : ∃ e, d = e + 16 := ⟨d - 16, by omega⟩
  show dd_Rn (e + 16) m_X11_readTrees (0, [.ref 148, .null], [], sM Ln I L c s) Q
  refine dd_Rn.cI 3 (pc := 4) (ls := [.ref 148, .null]) (st := [.int 63, .int 0, .ref 148]) (x := m_X11_number) (as := [.ref 148, .int 0, .int 63]) (rest := []) rfl rfl rfl rfl h ?_
  intro x1 I1 L1 h
  show dd_Rn (e + 16) m_X11_readTrees (7, [.ref 148, .null], [.int x1], sM Ln I1 L1 c s) _
  refine dd_Rn.ite 2 (c := x1 < 0) (A := (30, [.ref 148, .int x1], [], sM Ln I1 L1 c s)) (B := (12, [.ref 148, .int x1], [], sM Ln I1 L1 c s)) rfl (fun hc => ?_) (fun hc => ?_) (by omega)
  · have h := h.1 hc
    exact dd_Rn.retK 1 (pc := 31) (ls := [.ref 148, .int x1]) (st := [.int 0]) (M := sM Ln I1 L1 c s) (o := (none, .int 0, sM Ln I1 L1 c s)) rfl rfl h (by omega)
  · have h := h.2 hc
    refine dd_Rn.ite 5 (c := x1 = I1 149 4) (A := (30, [.ref 148, .int x1], [], sM Ln I1 L1 c s)) (B := (22, [.ref 148, .int x1], [], sM Ln I1 L1 c s)) rfl (fun hc => ?_) (fun hc => ?_) (by omega)
    · have h := h.1 hc
      exact dd_Rn.retK 1 (pc := 31) (ls := [.ref 148, .int x1]) (st := [.int 0]) (M := sM Ln I1 L1 c s) (o := (none, .int 0, sM Ln I1 L1 c s)) rfl rfl h (by omega)
    · have h := h.2 hc
      refine dd_Rn.cI 2 (pc := 24) (ls := [.ref 148, .int x1]) (st := [.int x1, .ref 148]) (x := m_X11_isLostIn) (as := [.ref 148, .int x1]) (rest := []) rfl rfl rfl rfl h ?_
      intro x2 I2 L2 h
      show dd_Rn (e + 16) m_X11_readTrees (27, [.ref 148, .int x1], [.int x2], sM Ln I2 L2 c s) _
      refine dd_Rn.ite 0 (c := x2 = 0) (A := (32, [.ref 148, .int x1], [], sM Ln I2 L2 c s)) (B := (30, [.ref 148, .int x1], [], sM Ln I2 L2 c s)) rfl (fun hc => ?_) (fun hc => ?_) (by omega)
      · have h := h.1 hc
        obtain ⟨hc, h⟩ := h
        refine dd_Rn.go 6 (cf' := (41, [.ref 148, .int x1], [.int 1, .int ((11 : Int32) + x1), .ref 149], sM Ln I2 L2 c s)) rfl ?_ (by omega)
        refine dd_Rn.ci (fun j0 => (41, [.ref 148, .int x1], [.int 1, .int j0, .ref 149], sM Ln I2 L2 c s)) (fun j0 => (42, [.ref 148, .int x1], [], sM Ln (dd_u I2 149 (upd (I2 149) (tn j0) 1)) L2 c s)) (fun j0 => 0 ≤ j0 ∧ tn j0 < 2220) ((11 : Int32) + x1) (fun j0 hc h => dd_Rn.chk 0 (c := 0 ≤ j0 ∧ tn j0 < 2220) (A := (42, [.ref 148, .int x1], [], sM Ln (dd_u I2 149 (upd (I2 149) (tn j0) 1)) L2 c s)) rfl hc h (by omega)) hc ?_
        refine dd_Rn.se (cf := (42, [.ref 148, .int x1], [], sM Ln (dd_u I2 149 (upd (I2 149) (tn ((11 : Int32) + x1)) 1)) L2 c s)) ?_
        exact dd_Rn.retK 1 (pc := 43) (ls := [.ref 148, .int x1]) (st := [.int 1]) (M := sM Ln (dd_u I2 149 (upd (I2 149) (tn ((11 : Int32) + x1)) 1)) L2 c s) (o := (none, .int 1, sM Ln (dd_u I2 149 (upd (I2 149) (tn ((11 : Int32) + x1)) 1)) L2 c s)) rfl rfl h (by omega)
      · have h := h.2 hc
        exact dd_Rn.retK 1 (pc := 31) (ls := [.ref 148, .int x1]) (st := [.int 0]) (M := sM Ln I2 L2 c s) (o := (none, .int 0, sM Ln I2 L2 c s)) rfl rfl h (by omega)

theorem w_X11_readFire_0 {Ln d c s : Nat} {I : Nat → Nat → Int32} {L : Nat → Nat → Int64} {Q : dd_O → Prop} (hd : 28 ≤ d) (h : dd_Ev (d - 1) m_X11_number [.ref 148, .int 0, .int 63] (sM Ln I L c s) (dd_RI Ln c s (fun x1 I1 L1 => ((x1 < 0 → Q (none, .int 0, sM Ln I1 L1 c s)) ∧ (¬ (x1 < 0) → ((0 ≤ (11 : Int32) + x1 ∧ tn ((11 : Int32) + x1) < 2220) ∧ ((I1 149 (tn ((11 : Int32) + x1)) = 1 → Q (none, .int 0, sM Ln I1 L1 c s)) ∧ (¬ (I1 149 (tn ((11 : Int32) + x1)) = 1) → dd_Ev (d - 1) m_X11_firesAt [.ref 148, .int x1] (sM Ln I1 L1 c s) (dd_RV Ln c s (fun I2 L2 => Q (none, .int 1, sM Ln I2 L2 c s))))))))))) : dd_Ev d m_X11_readFire [.ref 148] (sM Ln I L c s) Q := by
  obtain ⟨e, rfl⟩ : ∃ e, d = e + 16 := ⟨d - 16, by omega⟩
  show dd_Rn (e + 16) m_X11_readFire (0, [.ref 148, .null], [], sM Ln I L c s) Q
  refine dd_Rn.cI 3 (pc := 4) (ls := [.ref 148, .null]) (st := [.int 63, .int 0, .ref 148]) (x := m_X11_number) (as := [.ref 148, .int 0, .int 63]) (rest := []) rfl rfl rfl rfl h ?_
  intro x1 I1 L1 h
  show dd_Rn (e + 16) m_X11_readFire (7, [.ref 148, .null], [.int x1], sM Ln I1 L1 c s) _
  refine dd_Rn.ite 2 (c := x1 < 0) (A := (20, [.ref 148, .int x1], [], sM Ln I1 L1 c s)) (B := (12, [.ref 148, .int x1], [], sM Ln I1 L1 c s)) rfl (fun hc => ?_) (fun hc => ?_) (by omega)
  · have h := h.1 hc
    exact dd_Rn.retK 1 (pc := 21) (ls := [.ref 148, .int x1]) (st := [.int 0]) (M := sM Ln I1 L1 c s) (o := (none, .int 0, sM Ln I1 L1 c s)) rfl rfl h (by omega)
  · have h := h.2 hc
    refine dd_Rn.sub 2 (pc := 14) (ls := [.ref 148, .int x1]) (st := [.int x1, .ref 148]) (M := sM Ln I1 L1 c s) (x := m_X11_hasTrees) (as := [.ref 148, .int x1]) (rest := []) rfl rfl rfl rfl ?_
    show dd_Rn (e + 15) m_X11_hasTrees (0, [.ref 148, .int x1], [], sM Ln I1 L1 c s) _
    obtain ⟨hc, h⟩ := h
    refine dd_Rn.go 5 (cf' := (8, [.ref 148, .int x1], [.int ((11 : Int32) + x1), .ref 149], sM Ln I1 L1 c s)) rfl ?_ (by omega)
    refine dd_Rn.ci (fun j0 => (8, [.ref 148, .int x1], [.int j0, .ref 149], sM Ln I1 L1 c s)) (fun j0 => (9, [.ref 148, .int x1], [.int (I1 149 (tn j0))], sM Ln I1 L1 c s)) (fun j0 => 0 ≤ j0 ∧ tn j0 < 2220) ((11 : Int32) + x1) (fun j0 hc h => dd_Rn.chk 0 (c := 0 ≤ j0 ∧ tn j0 < 2220) (A := (9, [.ref 148, .int x1], [.int (I1 149 (tn j0))], sM Ln I1 L1 c s)) rfl hc h (by omega)) hc ?_
    refine dd_Rn.se (cf := (9, [.ref 148, .int x1], [.int (I1 149 (tn ((11 : Int32) + x1)))], sM Ln I1 L1 c s)) ?_
    refine dd_Rn.ite 1 (c := I1 149 (tn ((11 : Int32) + x1)) = 1) (A := (13, [.ref 148, .int x1], [], sM Ln I1 L1 c s)) (B := (17, [.ref 148, .int x1], [], sM Ln I1 L1 c s)) rfl (fun hc => ?_) (fun hc => ?_) (by omega)
    · have h := h.1 hc
      refine dd_Rn.retK 2 (pc := 18) (ls := [.ref 148, .int x1]) (st := [.int 1]) (M := sM Ln I1 L1 c s) (o := (none, .int 1, sM Ln I1 L1 c s)) rfl rfl (dd_Af.ret rfl ?_) (by omega)
      show dd_Rn (e + 16) m_X11_readFire (17, [.ref 148, .int x1], [.int 1], sM Ln I1 L1 c s) _
      exact dd_Rn.retK 2 (pc := 21) (ls := [.ref 148, .int x1]) (st := [.int 0]) (M := sM Ln I1 L1 c s) (o := (none, .int 0, sM Ln I1 L1 c s)) rfl rfl h (by omega)
    · have h := h.2 hc
      refine dd_Rn.retK 1 (pc := 18) (ls := [.ref 148, .int x1]) (st := [.int 0]) (M := sM Ln I1 L1 c s) (o := (none, .int 0, sM Ln I1 L1 c s)) rfl rfl (dd_Af.ret rfl ?_) (by omega)
      show dd_Rn (e + 16) m_X11_readFire (17, [.ref 148, .int x1], [.int 0], sM Ln I1 L1 c s) _
      refine dd_Rn.cV 3 (pc := 24) (ls := [.ref 148, .int x1]) (st := [.int x1, .ref 148]) (x := m_X11_firesAt) (as := [.ref 148, .int x1]) (rest := []) rfl rfl rfl rfl h ?_
      intro I2 L2 h
      show dd_Rn (e + 16) m_X11_readFire (27, [.ref 148, .int x1], [], sM Ln I2 L2 c s) _
      exact dd_Rn.retK 1 (pc := 28) (ls := [.ref 148, .int x1]) (st := [.int 1]) (M := sM Ln I2 L2 c s) (o := (none, .int 1, sM Ln I2 L2 c s)) rfl rfl h (by omega)

theorem w_X11_readFerns_0 {Ln d c s : Nat} {I : Nat → Nat → Int32} {L : Nat → Nat → Int64} {Q : dd_O → Prop} (hd : 28 ≤ d) (h : dd_Ev (d - 1) m_X11_number [.ref 148, .int 0, .int 63] (sM Ln I L c s) (dd_RI Ln c s (fun x1 I1 L1 => ((x1 < 0 → Q (none, .int 0, sM Ln I1 L1 c s)) ∧ (¬ (x1 < 0) → dd_Ev (d - 1) m_X11_readNumber [.ref 148, .int ((75 : Int32) + x1), .int 0, .int 9] (sM Ln I1 L1 c s) (dd_RI Ln c s (fun x2 I2 L2 => ((x2 = 0 → Q (none, .int 0, sM Ln I2 L2 c s)) ∧ (¬ (x2 = 0) → Q (none, .int 1, sM Ln I2 L2 c s)))))))))) : dd_Ev d m_X11_readFerns [.ref 148] (sM Ln I L c s) Q := by
  obtain ⟨e, rfl⟩ : ∃ e, d = e + 16 := ⟨d - 16, by omega⟩
  show dd_Rn (e + 16) m_X11_readFerns (0, [.ref 148, .null], [], sM Ln I L c s) Q
  refine dd_Rn.cI 3 (pc := 4) (ls := [.ref 148, .null]) (st := [.int 63, .int 0, .ref 148]) (x := m_X11_number) (as := [.ref 148, .int 0, .int 63]) (rest := []) rfl rfl rfl rfl h ?_
  intro x1 I1 L1 h
  show dd_Rn (e + 16) m_X11_readFerns (7, [.ref 148, .null], [.int x1], sM Ln I1 L1 c s) _
  refine dd_Rn.ite 2 (c := x1 < 0) (A := (30, [.ref 148, .int x1], [], sM Ln I1 L1 c s)) (B := (12, [.ref 148, .int x1], [], sM Ln I1 L1 c s)) rfl (fun hc => ?_) (fun hc => ?_) (by omega)
  · have h := h.1 hc
    exact dd_Rn.retK 1 (pc := 31) (ls := [.ref 148, .int x1]) (st := [.int 0]) (M := sM Ln I1 L1 c s) (o := (none, .int 0, sM Ln I1 L1 c s)) rfl rfl h (by omega)
  · have h := h.2 hc
    refine dd_Rn.cI 6 (pc := 20) (ls := [.ref 148, .int x1]) (st := [.int 9, .int 0, .int ((75 : Int32) + x1), .ref 148]) (x := m_X11_readNumber) (as := [.ref 148, .int ((75 : Int32) + x1), .int 0, .int 9]) (rest := []) rfl rfl rfl rfl h ?_
    intro x2 I2 L2 h
    show dd_Rn (e + 16) m_X11_readFerns (23, [.ref 148, .int x1], [.int x2], sM Ln I2 L2 c s) _
    refine dd_Rn.ite 0 (c := x2 = 0) (A := (30, [.ref 148, .int x1], [], sM Ln I2 L2 c s)) (B := (26, [.ref 148, .int x1], [], sM Ln I2 L2 c s)) rfl (fun hc => ?_) (fun hc => ?_) (by omega)
    · have h := h.1 hc
      exact dd_Rn.retK 1 (pc := 31) (ls := [.ref 148, .int x1]) (st := [.int 0]) (M := sM Ln I2 L2 c s) (o := (none, .int 0, sM Ln I2 L2 c s)) rfl rfl h (by omega)
    · have h := h.2 hc
      exact dd_Rn.retK 2 (pc := 31) (ls := [.ref 148, .int x1]) (st := [.int 1]) (M := sM Ln I2 L2 c s) (o := (none, .int 1, sM Ln I2 L2 c s)) rfl rfl h (by omega)

theorem w_X11_readWoodLine_0 {Ln d c s : Nat} {I : Nat → Nat → Int32} {L : Nat → Nat → Int64} {Q : dd_O → Prop} (hd : 28 ≤ d) (h : dd_Ev (d - 1) m_X11_isWord [.ref 148, .ref 1000046] (sM Ln I L c s) (dd_RI Ln c s (fun x1 I1 L1 => ((x1 = 0 → dd_Ev (d - 1) m_X11_isWord [.ref 148, .ref 1000047] (sM Ln I1 L1 c s) (dd_RI Ln c s (fun x2 I2 L2 => ((x2 = 0 → dd_Ev (d - 1) m_X11_isWord [.ref 148, .ref 1000051] (sM Ln I2 L2 c s) (dd_RI Ln c s (fun x3 I3 L3 => ((x3 = 0 → dd_Ev (d - 1) m_X11_isWord [.ref 148, .ref 1000052] (sM Ln I3 L3 c s) (dd_RI Ln c s (fun x4 I4 L4 => ((x4 = 0 → dd_Ev (d - 1) m_X11_isWord [.ref 148, .ref 1000053] (sM Ln I4 L4 c s) (dd_RI Ln c s (fun x5 I5 L5 => ((x5 = 0 → dd_Ev (d - 1) m_X11_isWord [.ref 148, .ref 1000054] (sM Ln I5 L5 c s) (dd_RI Ln c s (fun x6 I6 L6 => ((x6 = 0 → dd_Ev (d - 1) m_X11_isWord [.ref 148, .ref 1000055] (sM Ln I6 L6 c s) (dd_RI Ln c s (fun x7 I7 L7 => ((x7 = 0 → dd_Ev (d - 1) m_X11_isWord [.ref 148, .ref 1000056] (sM Ln I7 L7 c s) (dd_RI Ln c s (fun x8 I8 L8 => ((x8 = 0 → dd_Ev (d - 1) m_X11_isWord [.ref 148, .ref 1000057] (sM Ln I8 L8 c s) (dd_RI Ln c s (fun x9 I9 L9 => ((x9 = 0 → Q (none, .int 0, sM Ln I9 L9 c s)) ∧ (¬ (x9 = 0) → dd_Ev (d - 1) m_X11_readNumber [.ref 148, .int 8, .int 0, .int 999] (sM Ln I9 L9 c s) (dd_RI Ln c s (fun x10 I10 L10 => ((x10 = 0 → Q (none, .int 0, sM Ln I10 L10 c s)) ∧ (¬ (x10 = 0) → Q (none, .int 1, sM Ln I10 L10 c s)))))))))) ∧ (¬ (x8 = 0) → dd_Ev (d - 1) m_X11_readNumber [.ref 148, .int 7, .int 0, .int 7] (sM Ln I8 L8 c s) (dd_RI Ln c s (fun x11 I11 L11 => ((x11 = 0 ∨ x11 = 1) ∧ Q (none, .int x11, sM Ln I11 L11 c s))))))))) ∧ (¬ (x7 = 0) → dd_Ev (d - 1) m_X11_readNumber [.ref 148, .int 6, .int 0, .int 100] (sM Ln I7 L7 c s) (dd_RI Ln c s (fun x12 I12 L12 => ((x12 = 0 ∨ x12 = 1) ∧ Q (none, .int x12, sM Ln I12 L12 c s))))))))) ∧ (¬ (x6 = 0) → dd_Ev (d - 1) m_X11_readNumber [.ref 148, .int 5, .int 0, .int 15] (sM Ln I6 L6 c s) (dd_RI Ln c s (fun x13 I13 L13 => ((x13 = 0 ∨ x13 = 1) ∧ Q (none, .int x13, sM Ln I13 L13 c s))))))))) ∧ (¬ (x5 = 0) → dd_Ev (d - 1) m_X11_readFire [.ref 148] (sM Ln I5 L5 c s) (dd_RI Ln c s (fun x14 I14 L14 => ((x14 = 0 ∨ x14 = 1) ∧ Q (none, .int x14, sM Ln I14 L14 c s))))))))) ∧ (¬ (x4 = 0) → dd_Ev (d - 1) m_X11_readFerns [.ref 148] (sM Ln I4 L4 c s) (dd_RI Ln c s (fun x15 I15 L15 => ((x15 = 0 ∨ x15 = 1) ∧ Q (none, .int x15, sM Ln I15 L15 c s))))))))) ∧ (¬ (x3 = 0) → dd_Ev (d - 1) m_X11_readTrees [.ref 148] (sM Ln I3 L3 c s) (dd_RI Ln c s (fun x16 I16 L16 => ((x16 = 0 ∨ x16 = 1) ∧ Q (none, .int x16, sM Ln I16 L16 c s))))))))) ∧ (¬ (x2 = 0) → dd_Ev (d - 1) m_X11_readBoy [.ref 148] (sM Ln I2 L2 c s) (dd_RI Ln c s (fun x17 I17 L17 => ((x17 = 0 ∨ x17 = 1) ∧ Q (none, .int x17, sM Ln I17 L17 c s))))))))) ∧ (¬ (x1 = 0) → dd_Ev (d - 1) m_X11_readPartLine [.ref 148] (sM Ln I1 L1 c s) (dd_RI Ln c s (fun x18 I18 L18 => ((x18 = 0 ∨ x18 = 1) ∧ Q (none, .int x18, sM Ln I18 L18 c s))))))))) : dd_Ev d m_X11_readWoodLine [.ref 148] (sM Ln I L c s) Q := by
  obtain ⟨e, rfl⟩ : ∃ e, d = e + 16 := ⟨d - 16, by omega⟩
  show dd_Rn (e + 16) m_X11_readWoodLine (0, [.ref 148], [], sM Ln I L c s) Q
  refine dd_Rn.cI 2 (pc := 3) (ls := [.ref 148]) (st := [.ref 1000046, .ref 148]) (x := m_X11_isWord) (as := [.ref 148, .ref 1000046]) (rest := []) rfl rfl rfl rfl h ?_
  intro x1 I1 L1 h
  show dd_Rn (e + 16) m_X11_readWoodLine (6, [.ref 148], [.int x1], sM Ln I1 L1 c s) _
  refine dd_Rn.ite 0 (c := x1 = 0) (A := (14, [.ref 148], [], sM Ln I1 L1 c s)) (B := (9, [.ref 148], [], sM Ln I1 L1 c s)) rfl (fun hc => ?_) (fun hc => ?_) (by omega)
  · have h := h.1 hc
    refine dd_Rn.cI 2 (pc := 17) (ls := [.ref 148]) (st := [.ref 1000047, .ref 148]) (x := m_X11_isWord) (as := [.ref 148, .ref 1000047]) (rest := []) rfl rfl rfl rfl h ?_
    intro x2 I2 L2 h
    show dd_Rn (e + 16) m_X11_readWoodLine (20, [.ref 148], [.int x2], sM Ln I2 L2 c s) _
    refine dd_Rn.ite 0 (c := x2 = 0) (A := (28, [.ref 148], [], sM Ln I2 L2 c s)) (B := (23, [.ref 148], [], sM Ln I2 L2 c s)) rfl (fun hc => ?_) (fun hc => ?_) (by omega)
    · have h := h.1 hc
      refine dd_Rn.cI 2 (pc := 31) (ls := [.ref 148]) (st := [.ref 1000051, .ref 148]) (x := m_X11_isWord) (as := [.ref 148, .ref 1000051]) (rest := []) rfl rfl rfl rfl h ?_
      intro x3 I3 L3 h
      show dd_Rn (e + 16) m_X11_readWoodLine (34, [.ref 148], [.int x3], sM Ln I3 L3 c s) _
      refine dd_Rn.ite 0 (c := x3 = 0) (A := (42, [.ref 148], [], sM Ln I3 L3 c s)) (B := (37, [.ref 148], [], sM Ln I3 L3 c s)) rfl (fun hc => ?_) (fun hc => ?_) (by omega)
      · have h := h.1 hc
        refine dd_Rn.cI 2 (pc := 45) (ls := [.ref 148]) (st := [.ref 1000052, .ref 148]) (x := m_X11_isWord) (as := [.ref 148, .ref 1000052]) (rest := []) rfl rfl rfl rfl h ?_
        intro x4 I4 L4 h
        show dd_Rn (e + 16) m_X11_readWoodLine (48, [.ref 148], [.int x4], sM Ln I4 L4 c s) _
        refine dd_Rn.ite 0 (c := x4 = 0) (A := (56, [.ref 148], [], sM Ln I4 L4 c s)) (B := (51, [.ref 148], [], sM Ln I4 L4 c s)) rfl (fun hc => ?_) (fun hc => ?_) (by omega)
        · have h := h.1 hc
          refine dd_Rn.cI 2 (pc := 59) (ls := [.ref 148]) (st := [.ref 1000053, .ref 148]) (x := m_X11_isWord) (as := [.ref 148, .ref 1000053]) (rest := []) rfl rfl rfl rfl h ?_
          intro x5 I5 L5 h
          show dd_Rn (e + 16) m_X11_readWoodLine (62, [.ref 148], [.int x5], sM Ln I5 L5 c s) _
          refine dd_Rn.ite 0 (c := x5 = 0) (A := (70, [.ref 148], [], sM Ln I5 L5 c s)) (B := (65, [.ref 148], [], sM Ln I5 L5 c s)) rfl (fun hc => ?_) (fun hc => ?_) (by omega)
          · have h := h.1 hc
            refine dd_Rn.cI 2 (pc := 73) (ls := [.ref 148]) (st := [.ref 1000054, .ref 148]) (x := m_X11_isWord) (as := [.ref 148, .ref 1000054]) (rest := []) rfl rfl rfl rfl h ?_
            intro x6 I6 L6 h
            show dd_Rn (e + 16) m_X11_readWoodLine (76, [.ref 148], [.int x6], sM Ln I6 L6 c s) _
            refine dd_Rn.ite 0 (c := x6 = 0) (A := (88, [.ref 148], [], sM Ln I6 L6 c s)) (B := (79, [.ref 148], [], sM Ln I6 L6 c s)) rfl (fun hc => ?_) (fun hc => ?_) (by omega)
            · have h := h.1 hc
              refine dd_Rn.cI 2 (pc := 91) (ls := [.ref 148]) (st := [.ref 1000055, .ref 148]) (x := m_X11_isWord) (as := [.ref 148, .ref 1000055]) (rest := []) rfl rfl rfl rfl h ?_
              intro x7 I7 L7 h
              show dd_Rn (e + 16) m_X11_readWoodLine (94, [.ref 148], [.int x7], sM Ln I7 L7 c s) _
              refine dd_Rn.ite 0 (c := x7 = 0) (A := (107, [.ref 148], [], sM Ln I7 L7 c s)) (B := (97, [.ref 148], [], sM Ln I7 L7 c s)) rfl (fun hc => ?_) (fun hc => ?_) (by omega)
              · have h := h.1 hc
                refine dd_Rn.cI 2 (pc := 110) (ls := [.ref 148]) (st := [.ref 1000056, .ref 148]) (x := m_X11_isWord) (as := [.ref 148, .ref 1000056]) (rest := []) rfl rfl rfl rfl h ?_
                intro x8 I8 L8 h
                show dd_Rn (e + 16) m_X11_readWoodLine (113, [.ref 148], [.int x8], sM Ln I8 L8 c s) _
                refine dd_Rn.ite 0 (c := x8 = 0) (A := (126, [.ref 148], [], sM Ln I8 L8 c s)) (B := (116, [.ref 148], [], sM Ln I8 L8 c s)) rfl (fun hc => ?_) (fun hc => ?_) (by omega)
                · have h := h.1 hc
                  refine dd_Rn.cI 2 (pc := 129) (ls := [.ref 148]) (st := [.ref 1000057, .ref 148]) (x := m_X11_isWord) (as := [.ref 148, .ref 1000057]) (rest := []) rfl rfl rfl rfl h ?_
                  intro x9 I9 L9 h
                  show dd_Rn (e + 16) m_X11_readWoodLine (132, [.ref 148], [.int x9], sM Ln I9 L9 c s) _
                  refine dd_Rn.ite 0 (c := x9 = 0) (A := (152, [.ref 148], [], sM Ln I9 L9 c s)) (B := (135, [.ref 148], [], sM Ln I9 L9 c s)) rfl (fun hc => ?_) (fun hc => ?_) (by omega)
                  · have h := h.1 hc
                    exact dd_Rn.retK 1 (pc := 153) (ls := [.ref 148]) (st := [.int 0]) (M := sM Ln I9 L9 c s) (o := (none, .int 0, sM Ln I9 L9 c s)) rfl rfl h (by omega)
                  · have h := h.2 hc
                    refine dd_Rn.cI 4 (pc := 142) (ls := [.ref 148]) (st := [.int 999, .int 0, .int 8, .ref 148]) (x := m_X11_readNumber) (as := [.ref 148, .int 8, .int 0, .int 999]) (rest := []) rfl rfl rfl rfl h ?_
                    intro x10 I10 L10 h
                    show dd_Rn (e + 16) m_X11_readWoodLine (145, [.ref 148], [.int x10], sM Ln I10 L10 c s) _
                    refine dd_Rn.ite 0 (c := x10 = 0) (A := (152, [.ref 148], [], sM Ln I10 L10 c s)) (B := (148, [.ref 148], [], sM Ln I10 L10 c s)) rfl (fun hc => ?_) (fun hc => ?_) (by omega)
                    · have h := h.1 hc
                      exact dd_Rn.retK 1 (pc := 153) (ls := [.ref 148]) (st := [.int 0]) (M := sM Ln I10 L10 c s) (o := (none, .int 0, sM Ln I10 L10 c s)) rfl rfl h (by omega)
                    · have h := h.2 hc
                      exact dd_Rn.retK 2 (pc := 153) (ls := [.ref 148]) (st := [.int 1]) (M := sM Ln I10 L10 c s) (o := (none, .int 1, sM Ln I10 L10 c s)) rfl rfl h (by omega)
                · have h := h.2 hc
                  refine dd_Rn.cI 4 (pc := 122) (ls := [.ref 148]) (st := [.int 7, .int 0, .int 7, .ref 148]) (x := m_X11_readNumber) (as := [.ref 148, .int 7, .int 0, .int 7]) (rest := []) rfl rfl rfl rfl h ?_
                  intro x11 I11 L11 h
                  show dd_Rn (e + 16) m_X11_readWoodLine (125, [.ref 148], [.int x11], sM Ln I11 L11 c s) _
                  obtain ⟨hc, h⟩ := h
                  exact dd_Rn.retB 0 (cf' := (125, [.ref 148], [.int x11], sM Ln I11 L11 c s)) (v := x11) rfl rfl hc h (by omega)
              · have h := h.2 hc
                refine dd_Rn.cI 4 (pc := 103) (ls := [.ref 148]) (st := [.int 100, .int 0, .int 6, .ref 148]) (x := m_X11_readNumber) (as := [.ref 148, .int 6, .int 0, .int 100]) (rest := []) rfl rfl rfl rfl h ?_
                intro x12 I12 L12 h
                show dd_Rn (e + 16) m_X11_readWoodLine (106, [.ref 148], [.int x12], sM Ln I12 L12 c s) _
                obtain ⟨hc, h⟩ := h
                exact dd_Rn.retB 0 (cf' := (106, [.ref 148], [.int x12], sM Ln I12 L12 c s)) (v := x12) rfl rfl hc h (by omega)
            · have h := h.2 hc
              refine dd_Rn.cI 4 (pc := 84) (ls := [.ref 148]) (st := [.int 15, .int 0, .int 5, .ref 148]) (x := m_X11_readNumber) (as := [.ref 148, .int 5, .int 0, .int 15]) (rest := []) rfl rfl rfl rfl h ?_
              intro x13 I13 L13 h
              show dd_Rn (e + 16) m_X11_readWoodLine (87, [.ref 148], [.int x13], sM Ln I13 L13 c s) _
              obtain ⟨hc, h⟩ := h
              exact dd_Rn.retB 0 (cf' := (87, [.ref 148], [.int x13], sM Ln I13 L13 c s)) (v := x13) rfl rfl hc h (by omega)
          · have h := h.2 hc
            refine dd_Rn.cI 1 (pc := 66) (ls := [.ref 148]) (st := [.ref 148]) (x := m_X11_readFire) (as := [.ref 148]) (rest := []) rfl rfl rfl rfl h ?_
            intro x14 I14 L14 h
            show dd_Rn (e + 16) m_X11_readWoodLine (69, [.ref 148], [.int x14], sM Ln I14 L14 c s) _
            obtain ⟨hc, h⟩ := h
            exact dd_Rn.retB 0 (cf' := (69, [.ref 148], [.int x14], sM Ln I14 L14 c s)) (v := x14) rfl rfl hc h (by omega)
        · have h := h.2 hc
          refine dd_Rn.cI 1 (pc := 52) (ls := [.ref 148]) (st := [.ref 148]) (x := m_X11_readFerns) (as := [.ref 148]) (rest := []) rfl rfl rfl rfl h ?_
          intro x15 I15 L15 h
          show dd_Rn (e + 16) m_X11_readWoodLine (55, [.ref 148], [.int x15], sM Ln I15 L15 c s) _
          obtain ⟨hc, h⟩ := h
          exact dd_Rn.retB 0 (cf' := (55, [.ref 148], [.int x15], sM Ln I15 L15 c s)) (v := x15) rfl rfl hc h (by omega)
      · have h := h.2 hc
        refine dd_Rn.cI 1 (pc := 38) (ls := [.ref 148]) (st := [.ref 148]) (x := m_X11_readTrees) (as := [.ref 148]) (rest := []) rfl rfl rfl rfl h ?_
        intro x16 I16 L16 h
        show dd_Rn (e + 16) m_X11_readWoodLine (41, [.ref 148], [.int x16], sM Ln I16 L16 c s) _
        obtain ⟨hc, h⟩ := h
        exact dd_Rn.retB 0 (cf' := (41, [.ref 148], [.int x16], sM Ln I16 L16 c s)) (v := x16) rfl rfl hc h (by omega)
    · have h := h.2 hc
      refine dd_Rn.cI 1 (pc := 24) (ls := [.ref 148]) (st := [.ref 148]) (x := m_X11_readBoy) (as := [.ref 148]) (rest := []) rfl rfl rfl rfl h ?_
      intro x17 I17 L17 h
      show dd_Rn (e + 16) m_X11_readWoodLine (27, [.ref 148], [.int x17], sM Ln I17 L17 c s) _
      obtain ⟨hc, h⟩ := h
      exact dd_Rn.retB 0 (cf' := (27, [.ref 148], [.int x17], sM Ln I17 L17 c s)) (v := x17) rfl rfl hc h (by omega)
  · have h := h.2 hc
    refine dd_Rn.cI 1 (pc := 10) (ls := [.ref 148]) (st := [.ref 148]) (x := m_X11_readPartLine) (as := [.ref 148]) (rest := []) rfl rfl rfl rfl h ?_
    intro x18 I18 L18 h
    show dd_Rn (e + 16) m_X11_readWoodLine (13, [.ref 148], [.int x18], sM Ln I18 L18 c s) _
    obtain ⟨hc, h⟩ := h
    exact dd_Rn.retB 0 (cf' := (13, [.ref 148], [.int x18], sM Ln I18 L18 c s)) (v := x18) rfl rfl hc h (by omega)

theorem w_X11_emits_0 {Ln d c s : Nat} {I : Nat → Nat → Int32} {L : Nat → Nat → Int64} {Q : dd_O → Prop} {a1 a2 : Int32} (hd : 28 ≤ d) (h : ((0 ≤ (1420 : Int32) + ((2 : Int32) * (I 148 16)) ∧ tn ((1420 : Int32) + ((2 : Int32) * (I 148 16))) < 2220) ∧ ((0 ≤ ((1420 : Int32) + ((2 : Int32) * (I 148 16))) + 1 ∧ tn (((1420 : Int32) + ((2 : Int32) * (I 148 16))) + 1) < 2220) ∧ Q (none, .null, sM Ln (dd_u (dd_u (dd_u I 149 (upd (I 149) (tn ((1420 : Int32) + ((2 : Int32) * (I 148 16)))) a1)) 149 (upd (upd (I 149) (tn ((1420 : Int32) + ((2 : Int32) * (I 148 16)))) a1) (tn (((1420 : Int32) + ((2 : Int32) * (I 148 16))) + 1)) a2)) 148 (upd (I 148) 16 ((I 148 16) + 1))) L c s)))) : dd_Ev d m_X11_emits [.ref 148, .int a1, .int a2] (sM Ln I L c s) Q := by
  obtain ⟨e, rfl⟩ : ∃ e, d = e + 16 := ⟨d - 16, by omega⟩
  show dd_Rn (e + 16) m_X11_emits (0, [.ref 148, .int a1, .int a2], [], sM Ln I L c s) Q
  obtain ⟨hc, h⟩ := h
  refine dd_Rn.go 9 (cf' := (15, [.ref 148, .int a1, .int a2], [.int a1, .int ((1420 : Int32) + ((2 : Int32) * (I 148 16))), .ref 149], sM Ln I L c s)) rfl ?_ (by omega)
  refine dd_Rn.ci (fun j0 => (15, [.ref 148, .int a1, .int a2], [.int a1, .int j0, .ref 149], sM Ln I L c s)) (fun j0 => (16, [.ref 148, .int a1, .int a2], [], sM Ln (dd_u I 149 (upd (I 149) (tn j0) a1)) L c s)) (fun j0 => 0 ≤ j0 ∧ tn j0 < 2220) ((1420 : Int32) + ((2 : Int32) * (I 148 16))) (fun j0 hc h => dd_Rn.chk 0 (c := 0 ≤ j0 ∧ tn j0 < 2220) (A := (16, [.ref 148, .int a1, .int a2], [], sM Ln (dd_u I 149 (upd (I 149) (tn j0) a1)) L c s)) rfl hc h (by omega)) hc ?_
  refine dd_Rn.se (cf := (16, [.ref 148, .int a1, .int a2], [], sM Ln (dd_u I 149 (upd (I 149) (tn ((1420 : Int32) + ((2 : Int32) * (I 148 16)))) a1)) L c s)) ?_
  obtain ⟨hc, h⟩ := h
  refine dd_Rn.go 11 (cf' := (33, [.ref 148, .int a1, .int a2], [.int a2, .int (((1420 : Int32) + ((2 : Int32) * (I 148 16))) + 1), .ref 149], sM Ln (dd_u I 149 (upd (I 149) (tn ((1420 : Int32) + ((2 : Int32) * (I 148 16)))) a1)) L c s)) rfl ?_ (by omega)
  refine dd_Rn.ci (fun j0 => (33, [.ref 148, .int a1, .int a2], [.int a2, .int j0, .ref 149], sM Ln (dd_u I 149 (upd (I 149) (tn ((1420 : Int32) + ((2 : Int32) * (I 148 16)))) a1)) L c s)) (fun j0 => (34, [.ref 148, .int a1, .int a2], [], sM Ln (dd_u (dd_u I 149 (upd (I 149) (tn ((1420 : Int32) + ((2 : Int32) * (I 148 16)))) a1)) 149 (upd (upd (I 149) (tn ((1420 : Int32) + ((2 : Int32) * (I 148 16)))) a1) (tn j0) a2)) L c s)) (fun j0 => 0 ≤ j0 ∧ tn j0 < 2220) (((1420 : Int32) + ((2 : Int32) * (I 148 16))) + 1) (fun j0 hc h => dd_Rn.chk 0 (c := 0 ≤ j0 ∧ tn j0 < 2220) (A := (34, [.ref 148, .int a1, .int a2], [], sM Ln (dd_u (dd_u I 149 (upd (I 149) (tn ((1420 : Int32) + ((2 : Int32) * (I 148 16)))) a1)) 149 (upd (upd (I 149) (tn ((1420 : Int32) + ((2 : Int32) * (I 148 16)))) a1) (tn j0) a2)) L c s)) rfl hc h (by omega)) hc ?_
  refine dd_Rn.se (cf := (34, [.ref 148, .int a1, .int a2], [], sM Ln (dd_u (dd_u I 149 (upd (I 149) (tn ((1420 : Int32) + ((2 : Int32) * (I 148 16)))) a1)) 149 (upd (upd (I 149) (tn ((1420 : Int32) + ((2 : Int32) * (I 148 16)))) a1) (tn (((1420 : Int32) + ((2 : Int32) * (I 148 16))) + 1)) a2)) L c s)) ?_
  exact dd_Rn.retK 6 (pc := 44) (ls := [.ref 148, .int a1, .int a2]) (st := []) (M := sM Ln (dd_u (dd_u (dd_u I 149 (upd (I 149) (tn ((1420 : Int32) + ((2 : Int32) * (I 148 16)))) a1)) 149 (upd (upd (I 149) (tn ((1420 : Int32) + ((2 : Int32) * (I 148 16)))) a1) (tn (((1420 : Int32) + ((2 : Int32) * (I 148 16))) + 1)) a2)) 148 (upd (I 148) 16 ((I 148 16) + 1))) L c s) (o := (none, .null, sM Ln (dd_u (dd_u (dd_u I 149 (upd (I 149) (tn ((1420 : Int32) + ((2 : Int32) * (I 148 16)))) a1)) 149 (upd (upd (I 149) (tn ((1420 : Int32) + ((2 : Int32) * (I 148 16)))) a1) (tn (((1420 : Int32) + ((2 : Int32) * (I 148 16))) + 1)) a2)) 148 (upd (I 148) 16 ((I 148 16) + 1))) L c s)) rfl rfl h (by omega)

theorem w_X11_wordOfPart_0 {Ln d c s : Nat} {I : Nat → Nat → Int32} {L : Nat → Nat → Int64} {Q : dd_O → Prop} (hd : 28 ≤ d) (h : dd_Ev (d - 1) m_X11_isWord [.ref 148, .ref 1000047] (sM Ln I L c s) (dd_RI Ln c s (fun x1 I1 L1 => ((x1 = 0 → dd_Ev (d - 1) m_X11_isWord [.ref 148, .ref 1000046] (sM Ln I1 L1 c s) (dd_RI Ln c s (fun x2 I2 L2 => ((x2 = 0 → dd_Ev (d - 1) m_X11_isWord [.ref 148, .ref 1000050] (sM Ln I2 L2 c s) (dd_RI Ln c s (fun x3 I3 L3 => ((x3 = 0 → dd_Ev (d - 1) m_X11_isWord [.ref 148, .ref 1000065] (sM Ln I3 L3 c s) (dd_RI Ln c s (fun x4 I4 L4 => ((x4 = 0 → dd_Ev (d - 1) m_X11_isWord [.ref 148, .ref 1000066] (sM Ln I4 L4 c s) (dd_RI Ln c s (fun x5 I5 L5 => ((x5 = 0 → dd_Ev (d - 1) m_X11_isWord [.ref 148, .ref 1000067] (sM Ln I5 L5 c s) (dd_RI Ln c s (fun x6 I6 L6 => ((x6 = 0 → dd_Ev (d - 1) m_X11_isWord [.ref 148, .ref 1000068] (sM Ln I6 L6 c s) (dd_RI Ln c s (fun x7 I7 L7 => ((x7 = 0 → dd_Ev (d - 1) m_X11_isWord [.ref 148, .ref 1000056] (sM Ln I7 L7 c s) (dd_RI Ln c s (fun x8 I8 L8 => ((x8 = 0 → Q (none, .int (-1), sM Ln I8 L8 c s)) ∧ (¬ (x8 = 0) → Q (none, .int 7, sM Ln I8 L8 c s)))))) ∧ (¬ (x7 = 0) → Q (none, .int 6, sM Ln I7 L7 c s)))))) ∧ (¬ (x6 = 0) → Q (none, .int 5, sM Ln I6 L6 c s)))))) ∧ (¬ (x5 = 0) → Q (none, .int 4, sM Ln I5 L5 c s)))))) ∧ (¬ (x4 = 0) → Q (none, .int 3, sM Ln I4 L4 c s)))))) ∧ (¬ (x3 = 0) → Q (none, .int 2, sM Ln I3 L3 c s)))))) ∧ (¬ (x2 = 0) → Q (none, .int 1, sM Ln I2 L2 c s)))))) ∧ (¬ (x1 = 0) → Q (none, .int 0, sM Ln I1 L1 c s)))))) : dd_Ev d m_X11_wordOfPart [.ref 148] (sM Ln I L c s) Q := by
  obtain ⟨e, rfl⟩ : ∃ e, d = e + 16 := ⟨d - 16, by omega⟩
  show dd_Rn (e + 16) m_X11_wordOfPart (0, [.ref 148], [], sM Ln I L c s) Q
  refine dd_Rn.cI 2 (pc := 3) (ls := [.ref 148]) (st := [.ref 1000047, .ref 148]) (x := m_X11_isWord) (as := [.ref 148, .ref 1000047]) (rest := []) rfl rfl rfl rfl h ?_
  intro x1 I1 L1 h
  show dd_Rn (e + 16) m_X11_wordOfPart (6, [.ref 148], [.int x1], sM Ln I1 L1 c s) _
  refine dd_Rn.ite 0 (c := x1 = 0) (A := (11, [.ref 148], [], sM Ln I1 L1 c s)) (B := (9, [.ref 148], [], sM Ln I1 L1 c s)) rfl (fun hc => ?_) (fun hc => ?_) (by omega)
  · have h := h.1 hc
    refine dd_Rn.cI 2 (pc := 14) (ls := [.ref 148]) (st := [.ref 1000046, .ref 148]) (x := m_X11_isWord) (as := [.ref 148, .ref 1000046]) (rest := []) rfl rfl rfl rfl h ?_
    intro x2 I2 L2 h
    show dd_Rn (e + 16) m_X11_wordOfPart (17, [.ref 148], [.int x2], sM Ln I2 L2 c s) _
    refine dd_Rn.ite 0 (c := x2 = 0) (A := (22, [.ref 148], [], sM Ln I2 L2 c s)) (B := (20, [.ref 148], [], sM Ln I2 L2 c s)) rfl (fun hc => ?_) (fun hc => ?_) (by omega)
    · have h := h.1 hc
      refine dd_Rn.cI 2 (pc := 25) (ls := [.ref 148]) (st := [.ref 1000050, .ref 148]) (x := m_X11_isWord) (as := [.ref 148, .ref 1000050]) (rest := []) rfl rfl rfl rfl h ?_
      intro x3 I3 L3 h
      show dd_Rn (e + 16) m_X11_wordOfPart (28, [.ref 148], [.int x3], sM Ln I3 L3 c s) _
      refine dd_Rn.ite 0 (c := x3 = 0) (A := (33, [.ref 148], [], sM Ln I3 L3 c s)) (B := (31, [.ref 148], [], sM Ln I3 L3 c s)) rfl (fun hc => ?_) (fun hc => ?_) (by omega)
      · have h := h.1 hc
        refine dd_Rn.cI 2 (pc := 36) (ls := [.ref 148]) (st := [.ref 1000065, .ref 148]) (x := m_X11_isWord) (as := [.ref 148, .ref 1000065]) (rest := []) rfl rfl rfl rfl h ?_
        intro x4 I4 L4 h
        show dd_Rn (e + 16) m_X11_wordOfPart (39, [.ref 148], [.int x4], sM Ln I4 L4 c s) _
        refine dd_Rn.ite 0 (c := x4 = 0) (A := (44, [.ref 148], [], sM Ln I4 L4 c s)) (B := (42, [.ref 148], [], sM Ln I4 L4 c s)) rfl (fun hc => ?_) (fun hc => ?_) (by omega)
        · have h := h.1 hc
          refine dd_Rn.cI 2 (pc := 47) (ls := [.ref 148]) (st := [.ref 1000066, .ref 148]) (x := m_X11_isWord) (as := [.ref 148, .ref 1000066]) (rest := []) rfl rfl rfl rfl h ?_
          intro x5 I5 L5 h
          show dd_Rn (e + 16) m_X11_wordOfPart (50, [.ref 148], [.int x5], sM Ln I5 L5 c s) _
          refine dd_Rn.ite 0 (c := x5 = 0) (A := (55, [.ref 148], [], sM Ln I5 L5 c s)) (B := (53, [.ref 148], [], sM Ln I5 L5 c s)) rfl (fun hc => ?_) (fun hc => ?_) (by omega)
          · have h := h.1 hc
            refine dd_Rn.cI 2 (pc := 58) (ls := [.ref 148]) (st := [.ref 1000067, .ref 148]) (x := m_X11_isWord) (as := [.ref 148, .ref 1000067]) (rest := []) rfl rfl rfl rfl h ?_
            intro x6 I6 L6 h
            show dd_Rn (e + 16) m_X11_wordOfPart (61, [.ref 148], [.int x6], sM Ln I6 L6 c s) _
            refine dd_Rn.ite 0 (c := x6 = 0) (A := (66, [.ref 148], [], sM Ln I6 L6 c s)) (B := (64, [.ref 148], [], sM Ln I6 L6 c s)) rfl (fun hc => ?_) (fun hc => ?_) (by omega)
            · have h := h.1 hc
              refine dd_Rn.cI 2 (pc := 69) (ls := [.ref 148]) (st := [.ref 1000068, .ref 148]) (x := m_X11_isWord) (as := [.ref 148, .ref 1000068]) (rest := []) rfl rfl rfl rfl h ?_
              intro x7 I7 L7 h
              show dd_Rn (e + 16) m_X11_wordOfPart (72, [.ref 148], [.int x7], sM Ln I7 L7 c s) _
              refine dd_Rn.ite 0 (c := x7 = 0) (A := (78, [.ref 148], [], sM Ln I7 L7 c s)) (B := (75, [.ref 148], [], sM Ln I7 L7 c s)) rfl (fun hc => ?_) (fun hc => ?_) (by omega)
              · have h := h.1 hc
                refine dd_Rn.cI 2 (pc := 81) (ls := [.ref 148]) (st := [.ref 1000056, .ref 148]) (x := m_X11_isWord) (as := [.ref 148, .ref 1000056]) (rest := []) rfl rfl rfl rfl h ?_
                intro x8 I8 L8 h
                show dd_Rn (e + 16) m_X11_wordOfPart (84, [.ref 148], [.int x8], sM Ln I8 L8 c s) _
                refine dd_Rn.ite 0 (c := x8 = 0) (A := (92, [.ref 148], [], sM Ln I8 L8 c s)) (B := (87, [.ref 148], [], sM Ln I8 L8 c s)) rfl (fun hc => ?_) (fun hc => ?_) (by omega)
                · have h := h.1 hc
                  exact dd_Rn.retK 1 (pc := 93) (ls := [.ref 148]) (st := [.int (-1)]) (M := sM Ln I8 L8 c s) (o := (none, .int (-1), sM Ln I8 L8 c s)) rfl rfl h (by omega)
                · have h := h.2 hc
                  exact dd_Rn.retK 2 (pc := 93) (ls := [.ref 148]) (st := [.int 7]) (M := sM Ln I8 L8 c s) (o := (none, .int 7, sM Ln I8 L8 c s)) rfl rfl h (by omega)
              · have h := h.2 hc
                exact dd_Rn.retK 1 (pc := 77) (ls := [.ref 148]) (st := [.int 6]) (M := sM Ln I7 L7 c s) (o := (none, .int 6, sM Ln I7 L7 c s)) rfl rfl h (by omega)
            · have h := h.2 hc
              exact dd_Rn.retK 1 (pc := 65) (ls := [.ref 148]) (st := [.int 5]) (M := sM Ln I6 L6 c s) (o := (none, .int 5, sM Ln I6 L6 c s)) rfl rfl h (by omega)
          · have h := h.2 hc
            exact dd_Rn.retK 1 (pc := 54) (ls := [.ref 148]) (st := [.int 4]) (M := sM Ln I5 L5 c s) (o := (none, .int 4, sM Ln I5 L5 c s)) rfl rfl h (by omega)
        · have h := h.2 hc
          exact dd_Rn.retK 1 (pc := 43) (ls := [.ref 148]) (st := [.int 3]) (M := sM Ln I4 L4 c s) (o := (none, .int 3, sM Ln I4 L4 c s)) rfl rfl h (by omega)
      · have h := h.2 hc
        exact dd_Rn.retK 1 (pc := 32) (ls := [.ref 148]) (st := [.int 2]) (M := sM Ln I3 L3 c s) (o := (none, .int 2, sM Ln I3 L3 c s)) rfl rfl h (by omega)
    · have h := h.2 hc
      exact dd_Rn.retK 1 (pc := 21) (ls := [.ref 148]) (st := [.int 1]) (M := sM Ln I2 L2 c s) (o := (none, .int 1, sM Ln I2 L2 c s)) rfl rfl h (by omega)
  · have h := h.2 hc
    exact dd_Rn.retK 1 (pc := 10) (ls := [.ref 148]) (st := [.int 0]) (M := sM Ln I1 L1 c s) (o := (none, .int 0, sM Ln I1 L1 c s)) rfl rfl h (by omega)

theorem w_X11_readPart_0 {Ln d c s : Nat} {I : Nat → Nat → Int32} {L : Nat → Nat → Int64} {Q : dd_O → Prop} (hd : 28 ≤ d) (h : dd_Ev (d - 1) m_X11_letters [.ref 148] (sM Ln I L c s) (dd_RV Ln c s (fun I1 L1 => ((I1 148 10 = I1 148 12 → dd_Ev (d - 1) m_X11_number [.ref 148, .int 0, .int 999] (sM Ln I1 L1 c s) (dd_RI Ln c s (fun x2 I2 L2 => dd_Ev (d - 1) m_X11_emits [.ref 148, .int 10, .int x2] (sM Ln I2 L2 c s) (dd_RV Ln c s (fun I3 L3 => ((x2 < 0 → Q (none, .int 0, sM Ln I3 L3 c s)) ∧ (¬ (x2 < 0) → Q (none, .int 1, sM Ln I3 L3 c s)))))))) ∧ (¬ (I1 148 10 = I1 148 12) → dd_Ev (d - 1) m_X11_wordOfPart [.ref 148] (sM Ln I1 L1 c s) (dd_RI Ln c s (fun x4 I4 L4 => dd_Ev (d - 1) m_X11_emits [.ref 148, .int x4, .int 0] (sM Ln I4 L4 c s) (dd_RV Ln c s (fun I5 L5 => ((x4 < 0 → Q (none, .int 0, sM Ln I5 L5 c s)) ∧ (¬ (x4 < 0) → Q (none, .int 1, sM Ln I5 L5 c s)))))))))))) : dd_Ev d m_X11_readPart [.ref 148] (sM Ln I L c s) Q := by
  obtain ⟨e, rfl⟩ : ∃ e, d = e + 16 := ⟨d - 16, by omega⟩
  show dd_Rn (e + 16) m_X11_readPart (0, [.ref 148, .null, .null], [], sM Ln I L c s) Q
  refine dd_Rn.cV 1 (pc := 1) (ls := [.ref 148, .null, .null]) (st := [.ref 148]) (x := m_X11_letters) (as := [.ref 148]) (rest := []) rfl rfl rfl rfl h ?_
  intro I1 L1 h
  show dd_Rn (e + 16) m_X11_readPart (4, [.ref 148, .null, .null], [], sM Ln I1 L1 c s) _
  refine dd_Rn.ite 4 (c := I1 148 10 = I1 148 12) (A := (15, [.ref 148, .null, .null], [], sM Ln I1 L1 c s)) (B := (19, [.ref 148, .null, .null], [], sM Ln I1 L1 c s)) rfl (fun hc => ?_) (fun hc => ?_) (by omega)
  · have h := h.1 hc
    refine dd_Rn.cI 8 (pc := 30) (ls := [.ref 148, .int 1, .null]) (st := [.int 999, .int 0, .ref 148]) (x := m_X11_number) (as := [.ref 148, .int 0, .int 999]) (rest := []) rfl rfl rfl rfl h ?_
    intro x2 I2 L2 h
    show dd_Rn (e + 16) m_X11_readPart (33, [.ref 148, .int 1, .null], [.int x2], sM Ln I2 L2 c s) _
    refine dd_Rn.cV 11 (pc := 61) (ls := [.ref 148, .int 1, .int x2]) (st := [.int x2, .int 10, .ref 148]) (x := m_X11_emits) (as := [.ref 148, .int 10, .int x2]) (rest := []) rfl rfl rfl rfl h ?_
    intro I3 L3 h
    show dd_Rn (e + 16) m_X11_readPart (64, [.ref 148, .int 1, .int x2], [], sM Ln I3 L3 c s) _
    refine dd_Rn.ite 1 (c := x2 < 0) (A := (72, [.ref 148, .int 1, .int x2], [], sM Ln I3 L3 c s)) (B := (68, [.ref 148, .int 1, .int x2], [], sM Ln I3 L3 c s)) rfl (fun hc => ?_) (fun hc => ?_) (by omega)
    · have h := h.1 hc
      exact dd_Rn.retK 1 (pc := 73) (ls := [.ref 148, .int 1, .int x2]) (st := [.int 0]) (M := sM Ln I3 L3 c s) (o := (none, .int 0, sM Ln I3 L3 c s)) rfl rfl h (by omega)
    · have h := h.2 hc
      exact dd_Rn.retK 2 (pc := 73) (ls := [.ref 148, .int 1, .int x2]) (st := [.int 1]) (M := sM Ln I3 L3 c s) (o := (none, .int 1, sM Ln I3 L3 c s)) rfl rfl h (by omega)
  · have h := h.2 hc
    refine dd_Rn.cI 5 (pc := 37) (ls := [.ref 148, .int 0, .null]) (st := [.ref 148]) (x := m_X11_wordOfPart) (as := [.ref 148]) (rest := []) rfl rfl rfl rfl h ?_
    intro x4 I4 L4 h
    show dd_Rn (e + 16) m_X11_readPart (40, [.ref 148, .int 0, .null], [.int x4], sM Ln I4 L4 c s) _
    refine dd_Rn.cV 8 (pc := 61) (ls := [.ref 148, .int 0, .int x4]) (st := [.int 0, .int x4, .ref 148]) (x := m_X11_emits) (as := [.ref 148, .int x4, .int 0]) (rest := []) rfl rfl rfl rfl h ?_
    intro I5 L5 h
    show dd_Rn (e + 16) m_X11_readPart (64, [.ref 148, .int 0, .int x4], [], sM Ln I5 L5 c s) _
    refine dd_Rn.ite 1 (c := x4 < 0) (A := (72, [.ref 148, .int 0, .int x4], [], sM Ln I5 L5 c s)) (B := (68, [.ref 148, .int 0, .int x4], [], sM Ln I5 L5 c s)) rfl (fun hc => ?_) (fun hc => ?_) (by omega)
    · have h := h.1 hc
      exact dd_Rn.retK 1 (pc := 73) (ls := [.ref 148, .int 0, .int x4]) (st := [.int 0]) (M := sM Ln I5 L5 c s) (o := (none, .int 0, sM Ln I5 L5 c s)) rfl rfl h (by omega)
    · have h := h.2 hc
      exact dd_Rn.retK 2 (pc := 73) (ls := [.ref 148, .int 0, .int x4]) (st := [.int 1]) (M := sM Ln I5 L5 c s) (o := (none, .int 1, sM Ln I5 L5 c s)) rfl rfl h (by omega)

theorem w_X11_readSum_0 {Ln d c s : Nat} {I : Nat → Nat → Int32} {L : Nat → Nat → Int64} {Q : dd_O → Prop} (hd : 28 ≤ d) (h : dd_Ev (d - 1) m_X11_readPart [.ref 148] (sM Ln I L c s) (dd_RI Ln c s (fun x1 I1 L1 => ((x1 = 0 → Q (none, .int 0, sM Ln I1 L1 c s)) ∧ (¬ (x1 = 0) → dd_Rn d m_X11_readSum (9, [.ref 148], [], sM Ln I1 L1 c s) Q))))) : dd_Ev d m_X11_readSum [.ref 148] (sM Ln I L c s) Q := by
  obtain ⟨e, rfl⟩ : ∃ e, d = e + 16 := ⟨d - 16, by omega⟩
  show dd_Rn (e + 16) m_X11_readSum (0, [.ref 148], [], sM Ln I L c s) Q
  refine dd_Rn.cI 1 (pc := 1) (ls := [.ref 148]) (st := [.ref 148]) (x := m_X11_readPart) (as := [.ref 148]) (rest := []) rfl rfl rfl rfl h ?_
  intro x1 I1 L1 h
  show dd_Rn (e + 16) m_X11_readSum (4, [.ref 148], [.int x1], sM Ln I1 L1 c s) _
  refine dd_Rn.ite 0 (c := x1 = 0) (A := (7, [.ref 148], [], sM Ln I1 L1 c s)) (B := (9, [.ref 148], [], sM Ln I1 L1 c s)) rfl (fun hc => ?_) (fun hc => ?_) (by omega)
  · have h := h.1 hc
    exact dd_Rn.retK 1 (pc := 8) (ls := [.ref 148]) (st := [.int 0]) (M := sM Ln I1 L1 c s) (o := (none, .int 0, sM Ln I1 L1 c s)) rfl rfl h (by omega)
  · have h := h.2 hc
    exact dd_Rn.go 0 (cf' := (9, [.ref 148], [], sM Ln I1 L1 c s)) rfl h (by omega)

theorem w_X11_readSum_9 {Ln d c s : Nat} {I : Nat → Nat → Int32} {L : Nat → Nat → Int64} {Q : dd_O → Prop} (hd : 28 ≤ d) (h : dd_Ev (d - 1) m_X11_sign [.ref 148, .int 43] (sM Ln I L c s) (dd_RI Ln c s (fun x1 I1 L1 => ((x1 = 0 → Q (none, .int 1, sM Ln I1 L1 c s)) ∧ (¬ (x1 = 0) → dd_Ev (d - 1) m_X11_readPart [.ref 148] (sM Ln I1 L1 c s) (dd_RI Ln c s (fun x2 I2 L2 => ((x2 = 0 → Q (none, .int 0, sM Ln I2 L2 c s)) ∧ (¬ (x2 = 0) → dd_Ev (d - 1) m_X11_emits [.ref 148, .int 11, .int 0] (sM Ln I2 L2 c s) (dd_RV Ln c s (fun I3 L3 => dd_Rn d m_X11_readSum (9, [.ref 148], [], sM Ln I3 L3 c s) Q))))))))))) : dd_Rn d m_X11_readSum (9, [.ref 148], [], sM Ln I L c s) Q := by
  obtain ⟨e, rfl⟩ : ∃ e, d = e + 16 := ⟨d - 16, by omega⟩
  refine dd_Rn.cI 2 (pc := 12) (ls := [.ref 148]) (st := [.int 43, .ref 148]) (x := m_X11_sign) (as := [.ref 148, .int 43]) (rest := []) rfl rfl rfl rfl h ?_
  intro x1 I1 L1 h
  show dd_Rn (e + 16) m_X11_readSum (15, [.ref 148], [.int x1], sM Ln I1 L1 c s) _
  refine dd_Rn.ite 0 (c := x1 = 0) (A := (37, [.ref 148], [], sM Ln I1 L1 c s)) (B := (18, [.ref 148], [], sM Ln I1 L1 c s)) rfl (fun hc => ?_) (fun hc => ?_) (by omega)
  · have h := h.1 hc
    exact dd_Rn.retK 1 (pc := 38) (ls := [.ref 148]) (st := [.int 1]) (M := sM Ln I1 L1 c s) (o := (none, .int 1, sM Ln I1 L1 c s)) rfl rfl h (by omega)
  · have h := h.2 hc
    refine dd_Rn.cI 1 (pc := 19) (ls := [.ref 148]) (st := [.ref 148]) (x := m_X11_readPart) (as := [.ref 148]) (rest := []) rfl rfl rfl rfl h ?_
    intro x2 I2 L2 h
    show dd_Rn (e + 16) m_X11_readSum (22, [.ref 148], [.int x2], sM Ln I2 L2 c s) _
    refine dd_Rn.ite 0 (c := x2 = 0) (A := (25, [.ref 148], [], sM Ln I2 L2 c s)) (B := (27, [.ref 148], [], sM Ln I2 L2 c s)) rfl (fun hc => ?_) (fun hc => ?_) (by omega)
    · have h := h.1 hc
      exact dd_Rn.retK 1 (pc := 26) (ls := [.ref 148]) (st := [.int 0]) (M := sM Ln I2 L2 c s) (o := (none, .int 0, sM Ln I2 L2 c s)) rfl rfl h (by omega)
    · have h := h.2 hc
      refine dd_Rn.cV 3 (pc := 31) (ls := [.ref 148]) (st := [.int 0, .int 11, .ref 148]) (x := m_X11_emits) (as := [.ref 148, .int 11, .int 0]) (rest := []) rfl rfl rfl rfl h ?_
      intro I3 L3 h
      show dd_Rn (e + 16) m_X11_readSum (34, [.ref 148], [], sM Ln I3 L3 c s) _
      exact dd_Rn.go 1 (cf' := (9, [.ref 148], [], sM Ln I3 L3 c s)) rfl h (by omega)

theorem w_X11_readTag_0 {Ln d c s : Nat} {I : Nat → Nat → Int32} {L : Nat → Nat → Int64} {Q : dd_O → Prop} (hd : 28 ≤ d) (h : dd_Ev (d - 1) m_X11_letters [.ref 148] (sM Ln I L c s) (dd_RV Ln c s (fun I1 L1 => dd_Ev (d - 1) m_X11_isWord [.ref 148, .ref 1000063] (sM Ln I1 L1 c s) (dd_RI Ln c s (fun x2 I2 L2 => ((x2 = 0 → dd_Ev (d - 1) m_X11_isWord [.ref 148, .ref 1000064] (sM Ln I2 L2 c s) (dd_RI Ln c s (fun x3 I3 L3 => ((x3 = 0 → Q (none, .int 0, sM Ln (dd_u I3 148 (upd (I3 148) 10 (I3 148 12))) L3 c s)) ∧ (¬ (x3 = 0) → dd_Ev (d - 1) m_X11_emits [.ref 148, .int 9, .int 0] (sM Ln I3 L3 c s) (dd_RV Ln c s (fun I4 L4 => Q (none, .int 1, sM Ln I4 L4 c s)))))))) ∧ (¬ (x2 = 0) → dd_Ev (d - 1) m_X11_emits [.ref 148, .int 8, .int 0] (sM Ln I2 L2 c s) (dd_RV Ln c s (fun I5 L5 => Q (none, .int 1, sM Ln I5 L5 c s)))))))))) : dd_Ev d m_X11_readTag [.ref 148] (sM Ln I L c s) Q := by
  obtain ⟨e, rfl⟩ : ∃ e, d = e + 16 := ⟨d - 16, by omega⟩
  show dd_Rn (e + 16) m_X11_readTag (0, [.ref 148, .null], [], sM Ln I L c s) Q
  refine dd_Rn.cV 1 (pc := 1) (ls := [.ref 148, .null]) (st := [.ref 148]) (x := m_X11_letters) (as := [.ref 148]) (rest := []) rfl rfl rfl rfl h ?_
  intro I1 L1 h
  show dd_Rn (e + 16) m_X11_readTag (4, [.ref 148, .null], [], sM Ln I1 L1 c s) _
  refine dd_Rn.cI 2 (pc := 7) (ls := [.ref 148, .null]) (st := [.ref 1000063, .ref 148]) (x := m_X11_isWord) (as := [.ref 148, .ref 1000063]) (rest := []) rfl rfl rfl rfl h ?_
  intro x2 I2 L2 h
  show dd_Rn (e + 16) m_X11_readTag (10, [.ref 148, .null], [.int x2], sM Ln I2 L2 c s) _
  refine dd_Rn.ite 0 (c := x2 = 0) (A := (18, [.ref 148, .null], [], sM Ln I2 L2 c s)) (B := (13, [.ref 148, .null], [], sM Ln I2 L2 c s)) rfl (fun hc => ?_) (fun hc => ?_) (by omega)
  · have h := h.1 hc
    refine dd_Rn.cI 2 (pc := 21) (ls := [.ref 148, .null]) (st := [.ref 1000064, .ref 148]) (x := m_X11_isWord) (as := [.ref 148, .ref 1000064]) (rest := []) rfl rfl rfl rfl h ?_
    intro x3 I3 L3 h
    show dd_Rn (e + 16) m_X11_readTag (24, [.ref 148, .null], [.int x3], sM Ln I3 L3 c s) _
    refine dd_Rn.ite 0 (c := x3 = 0) (A := (32, [.ref 148, .null], [], sM Ln I3 L3 c s)) (B := (27, [.ref 148, .null], [], sM Ln I3 L3 c s)) rfl (fun hc => ?_) (fun hc => ?_) (by omega)
    · have h := h.1 hc
      exact dd_Rn.retK 11 (pc := 64) (ls := [.ref 148, .int (-1)]) (st := [.int 0]) (M := sM Ln (dd_u I3 148 (upd (I3 148) 10 (I3 148 12))) L3 c s) (o := (none, .int 0, sM Ln (dd_u I3 148 (upd (I3 148) 10 (I3 148 12))) L3 c s)) rfl rfl h (by omega)
    · have h := h.2 hc
      refine dd_Rn.cV 8 (pc := 41) (ls := [.ref 148, .int 9]) (st := [.int 0, .int 9, .ref 148]) (x := m_X11_emits) (as := [.ref 148, .int 9, .int 0]) (rest := []) rfl rfl rfl rfl h ?_
      intro I4 L4 h
      show dd_Rn (e + 16) m_X11_readTag (44, [.ref 148, .int 9], [], sM Ln I4 L4 c s) _
      exact dd_Rn.retK 5 (pc := 64) (ls := [.ref 148, .int 9]) (st := [.int 1]) (M := sM Ln I4 L4 c s) (o := (none, .int 1, sM Ln I4 L4 c s)) rfl rfl h (by omega)
  · have h := h.2 hc
    refine dd_Rn.cV 8 (pc := 41) (ls := [.ref 148, .int 8]) (st := [.int 0, .int 8, .ref 148]) (x := m_X11_emits) (as := [.ref 148, .int 8, .int 0]) (rest := []) rfl rfl rfl rfl h ?_
    intro I5 L5 h
    show dd_Rn (e + 16) m_X11_readTag (44, [.ref 148, .int 8], [], sM Ln I5 L5 c s) _
    exact dd_Rn.retK 5 (pc := 64) (ls := [.ref 148, .int 8]) (st := [.int 1]) (M := sM Ln I5 L5 c s) (o := (none, .int 1, sM Ln I5 L5 c s)) rfl rfl h (by omega)

theorem w_X11_readAtom_0 {Ln d c s : Nat} {I : Nat → Nat → Int32} {L : Nat → Nat → Int64} {Q : dd_O → Prop} (hd : 28 ≤ d) (h : dd_Ev (d - 1) m_X11_sign [.ref 148, .int 40] (sM Ln I L c s) (dd_RI Ln c s (fun x1 I1 L1 => ((x1 = 0 → dd_Ev (d - 1) m_X11_passes [.ref 148, .ref 1000062] (sM Ln I1 L1 c s) (dd_RI Ln c s (fun x2 I2 L2 => ((x2 = 0 → dd_Ev (d - 1) m_X11_readTag [.ref 148] (sM Ln I2 L2 c s) (dd_RI Ln c s (fun x3 I3 L3 => ((x3 = 0 → dd_Ev (d - 1) m_X11_readSum [.ref 148] (sM Ln I3 L3 c s) (dd_RI Ln c s (fun x4 I4 L4 => ((x4 = 0 → Q (none, .int 0, sM Ln I4 L4 c s)) ∧ (¬ (x4 = 0) → dd_Ev (d - 1) m_X11_sign [.ref 148, .int 60] (sM Ln I4 L4 c s) (dd_RI Ln c s (fun x5 I5 L5 => ((x5 = 0 → dd_Ev (d - 1) m_X11_sign [.ref 148, .int 62] (sM Ln I5 L5 c s) (dd_RI Ln c s (fun x6 I6 L6 => ((x6 = 0 → Q (none, .int 0, sM Ln I6 L6 c s)) ∧ (¬ (x6 = 0) → dd_Ev (d - 1) m_X11_readSum [.ref 148] (sM Ln I6 L6 c s) (dd_RI Ln c s (fun x7 I7 L7 => ((x7 = 0 → Q (none, .int 0, sM Ln I7 L7 c s)) ∧ (¬ (x7 = 0) → ((x5 = 0 → dd_Ev (d - 1) m_X11_emits [.ref 148, .int 13, .int 0] (sM Ln I7 L7 c s) (dd_RV Ln c s (fun I8 L8 => Q (none, .int 1, sM Ln I8 L8 c s)))) ∧ (¬ (x5 = 0) → dd_Ev (d - 1) m_X11_emits [.ref 148, .int 12, .int 0] (sM Ln I7 L7 c s) (dd_RV Ln c s (fun I9 L9 => Q (none, .int 1, sM Ln I9 L9 c s)))))))))))))) ∧ (¬ (x5 = 0) → dd_Ev (d - 1) m_X11_readSum [.ref 148] (sM Ln I5 L5 c s) (dd_RI Ln c s (fun x10 I10 L10 => ((x10 = 0 → Q (none, .int 0, sM Ln I10 L10 c s)) ∧ (¬ (x10 = 0) → ((x5 = 0 → dd_Ev (d - 1) m_X11_emits [.ref 148, .int 13, .int 0] (sM Ln I10 L10 c s) (dd_RV Ln c s (fun I11 L11 => Q (none, .int 1, sM Ln I11 L11 c s)))) ∧ (¬ (x5 = 0) → dd_Ev (d - 1) m_X11_emits [.ref 148, .int 12, .int 0] (sM Ln I10 L10 c s) (dd_RV Ln c s (fun I12 L12 => Q (none, .int 1, sM Ln I12 L12 c s)))))))))))))))))) ∧ (¬ (x3 = 0) → Q (none, .int 1, sM Ln I3 L3 c s)))))) ∧ (¬ (x2 = 0) → ((I2 148 13 = 6 → Q (none, .int 0, sM Ln I2 L2 c s)) ∧ (¬ (I2 148 13 = 6) → dd_Ev (d - 1) m_X11_readAtom [.ref 148] (sM Ln (dd_u I2 148 (upd (I2 148) 13 ((I2 148 13) + 1))) L2 c s) (dd_RI Ln c s (fun x13 I13 L13 => ((x13 = 0 → Q (none, .int 0, sM Ln I13 L13 c s)) ∧ (¬ (x13 = 0) → dd_Ev (d - 1) m_X11_emits [.ref 148, .int 14, .int 0] (sM Ln (dd_u I13 148 (upd (I13 148) 13 ((I13 148 13) - 1))) L13 c s) (dd_RV Ln c s (fun I14 L14 => Q (none, .int 1, sM Ln I14 L14 c s)))))))))))))) ∧ (¬ (x1 = 0) → ((I1 148 13 = 6 → Q (none, .int 0, sM Ln I1 L1 c s)) ∧ (¬ (I1 148 13 = 6) → dd_Ev (d - 1) m_X11_readCond [.ref 148] (sM Ln (dd_u I1 148 (upd (I1 148) 13 ((I1 148 13) + 1))) L1 c s) (dd_RI Ln c s (fun x15 I15 L15 => ((x15 = 0 → Q (none, .int 0, sM Ln I15 L15 c s)) ∧ (¬ (x15 = 0) → dd_Ev (d - 1) m_X11_sign [.ref 148, .int 41] (sM Ln (dd_u I15 148 (upd (I15 148) 13 ((I15 148 13) - 1))) L15 c s) (dd_RI Ln c s (fun x16 I16 L16 => ((x16 = 0 ∨ x16 = 1) ∧ Q (none, .int x16, sM Ln I16 L16 c s))))))))))))))) : dd_Ev d m_X11_readAtom [.ref 148] (sM Ln I L c s) Q := by
  obtain ⟨e, rfl⟩ : ∃ e, d = e + 16 := ⟨d - 16, by omega⟩
  show dd_Rn (e + 16) m_X11_readAtom (0, [.ref 148, .null], [], sM Ln I L c s) Q
  refine dd_Rn.cI 2 (pc := 3) (ls := [.ref 148, .null]) (st := [.int 40, .ref 148]) (x := m_X11_sign) (as := [.ref 148, .int 40]) (rest := []) rfl rfl rfl rfl h ?_
  intro x1 I1 L1 h
  show dd_Rn (e + 16) m_X11_readAtom (6, [.ref 148, .null], [.int x1], sM Ln I1 L1 c s) _
  refine dd_Rn.ite 0 (c := x1 = 0) (A := (56, [.ref 148, .null], [], sM Ln I1 L1 c s)) (B := (9, [.ref 148, .null], [], sM Ln I1 L1 c s)) rfl (fun hc => ?_) (fun hc => ?_) (by omega)
  · have h := h.1 hc
    refine dd_Rn.cI 2 (pc := 59) (ls := [.ref 148, .null]) (st := [.ref 1000062, .ref 148]) (x := m_X11_passes) (as := [.ref 148, .ref 1000062]) (rest := []) rfl rfl rfl rfl h ?_
    intro x2 I2 L2 h
    show dd_Rn (e + 16) m_X11_readAtom (62, [.ref 148, .null], [.int x2], sM Ln I2 L2 c s) _
    refine dd_Rn.ite 0 (c := x2 = 0) (A := (114, [.ref 148, .null], [], sM Ln I2 L2 c s)) (B := (65, [.ref 148, .null], [], sM Ln I2 L2 c s)) rfl (fun hc => ?_) (fun hc => ?_) (by omega)
    · have h := h.1 hc
      refine dd_Rn.cI 1 (pc := 115) (ls := [.ref 148, .null]) (st := [.ref 148]) (x := m_X11_readTag) (as := [.ref 148]) (rest := []) rfl rfl rfl rfl h ?_
      intro x3 I3 L3 h
      show dd_Rn (e + 16) m_X11_readAtom (118, [.ref 148, .null], [.int x3], sM Ln I3 L3 c s) _
      refine dd_Rn.ite 0 (c := x3 = 0) (A := (123, [.ref 148, .null], [], sM Ln I3 L3 c s)) (B := (121, [.ref 148, .null], [], sM Ln I3 L3 c s)) rfl (fun hc => ?_) (fun hc => ?_) (by omega)
      · have h := h.1 hc
        refine dd_Rn.cI 1 (pc := 124) (ls := [.ref 148, .null]) (st := [.ref 148]) (x := m_X11_readSum) (as := [.ref 148]) (rest := []) rfl rfl rfl rfl h ?_
        intro x4 I4 L4 h
        show dd_Rn (e + 16) m_X11_readAtom (127, [.ref 148, .null], [.int x4], sM Ln I4 L4 c s) _
        refine dd_Rn.ite 0 (c := x4 = 0) (A := (130, [.ref 148, .null], [], sM Ln I4 L4 c s)) (B := (132, [.ref 148, .null], [], sM Ln I4 L4 c s)) rfl (fun hc => ?_) (fun hc => ?_) (by omega)
        · have h := h.1 hc
          exact dd_Rn.retK 1 (pc := 131) (ls := [.ref 148, .null]) (st := [.int 0]) (M := sM Ln I4 L4 c s) (o := (none, .int 0, sM Ln I4 L4 c s)) rfl rfl h (by omega)
        · have h := h.2 hc
          refine dd_Rn.cI 2 (pc := 135) (ls := [.ref 148, .null]) (st := [.int 60, .ref 148]) (x := m_X11_sign) (as := [.ref 148, .int 60]) (rest := []) rfl rfl rfl rfl h ?_
          intro x5 I5 L5 h
          show dd_Rn (e + 16) m_X11_readAtom (138, [.ref 148, .null], [.int x5], sM Ln I5 L5 c s) _
          refine dd_Rn.ite 2 (c := x5 = 0) (A := (143, [.ref 148, .int x5], [], sM Ln I5 L5 c s)) (B := (152, [.ref 148, .int x5], [], sM Ln I5 L5 c s)) rfl (fun hc => ?_) (fun hc => ?_) (by omega)
          · have h := h.1 hc
            refine dd_Rn.cI 2 (pc := 146) (ls := [.ref 148, .int x5]) (st := [.int 62, .ref 148]) (x := m_X11_sign) (as := [.ref 148, .int 62]) (rest := []) rfl rfl rfl rfl h ?_
            intro x6 I6 L6 h
            show dd_Rn (e + 16) m_X11_readAtom (149, [.ref 148, .int x5], [.int x6], sM Ln I6 L6 c s) _
            refine dd_Rn.ite 0 (c := x6 = 0) (A := (159, [.ref 148, .int x5], [], sM Ln I6 L6 c s)) (B := (152, [.ref 148, .int x5], [], sM Ln I6 L6 c s)) rfl (fun hc => ?_) (fun hc => ?_) (by omega)
            · have h := h.1 hc
              exact dd_Rn.retK 1 (pc := 160) (ls := [.ref 148, .int x5]) (st := [.int 0]) (M := sM Ln I6 L6 c s) (o := (none, .int 0, sM Ln I6 L6 c s)) rfl rfl h (by omega)
            · have h := h.2 hc
              refine dd_Rn.cI 1 (pc := 153) (ls := [.ref 148, .int x5]) (st := [.ref 148]) (x := m_X11_readSum) (as := [.ref 148]) (rest := []) rfl rfl rfl rfl h ?_
              intro x7 I7 L7 h
              show dd_Rn (e + 16) m_X11_readAtom (156, [.ref 148, .int x5], [.int x7], sM Ln I7 L7 c s) _
              refine dd_Rn.ite 0 (c := x7 = 0) (A := (159, [.ref 148, .int x5], [], sM Ln I7 L7 c s)) (B := (161, [.ref 148, .int x5], [], sM Ln I7 L7 c s)) rfl (fun hc => ?_) (fun hc => ?_) (by omega)
              · have h := h.1 hc
                exact dd_Rn.retK 1 (pc := 160) (ls := [.ref 148, .int x5]) (st := [.int 0]) (M := sM Ln I7 L7 c s) (o := (none, .int 0, sM Ln I7 L7 c s)) rfl rfl h (by omega)
              · have h := h.2 hc
                refine dd_Rn.ite 2 (c := x5 = 0) (A := (171, [.ref 148, .int x5], [.ref 148], sM Ln I7 L7 c s)) (B := (166, [.ref 148, .int x5], [.ref 148], sM Ln I7 L7 c s)) rfl (fun hc => ?_) (fun hc => ?_) (by omega)
                · have h := h.1 hc
                  refine dd_Rn.cV 2 (pc := 174) (ls := [.ref 148, .int x5]) (st := [.int 0, .int 13, .ref 148]) (x := m_X11_emits) (as := [.ref 148, .int 13, .int 0]) (rest := []) rfl rfl rfl rfl h ?_
                  intro I8 L8 h
                  show dd_Rn (e + 16) m_X11_readAtom (177, [.ref 148, .int x5], [], sM Ln I8 L8 c s) _
                  exact dd_Rn.retK 1 (pc := 178) (ls := [.ref 148, .int x5]) (st := [.int 1]) (M := sM Ln I8 L8 c s) (o := (none, .int 1, sM Ln I8 L8 c s)) rfl rfl h (by omega)
                · have h := h.2 hc
                  refine dd_Rn.cV 3 (pc := 174) (ls := [.ref 148, .int x5]) (st := [.int 0, .int 12, .ref 148]) (x := m_X11_emits) (as := [.ref 148, .int 12, .int 0]) (rest := []) rfl rfl rfl rfl h ?_
                  intro I9 L9 h
                  show dd_Rn (e + 16) m_X11_readAtom (177, [.ref 148, .int x5], [], sM Ln I9 L9 c s) _
                  exact dd_Rn.retK 1 (pc := 178) (ls := [.ref 148, .int x5]) (st := [.int 1]) (M := sM Ln I9 L9 c s) (o := (none, .int 1, sM Ln I9 L9 c s)) rfl rfl h (by omega)
          · have h := h.2 hc
            refine dd_Rn.cI 1 (pc := 153) (ls := [.ref 148, .int x5]) (st := [.ref 148]) (x := m_X11_readSum) (as := [.ref 148]) (rest := []) rfl rfl rfl rfl h ?_
            intro x10 I10 L10 h
            show dd_Rn (e + 16) m_X11_readAtom (156, [.ref 148, .int x5], [.int x10], sM Ln I10 L10 c s) _
            refine dd_Rn.ite 0 (c := x10 = 0) (A := (159, [.ref 148, .int x5], [], sM Ln I10 L10 c s)) (B := (161, [.ref 148, .int x5], [], sM Ln I10 L10 c s)) rfl (fun hc => ?_) (fun hc => ?_) (by omega)
            · have h := h.1 hc
              exact dd_Rn.retK 1 (pc := 160) (ls := [.ref 148, .int x5]) (st := [.int 0]) (M := sM Ln I10 L10 c s) (o := (none, .int 0, sM Ln I10 L10 c s)) rfl rfl h (by omega)
            · have h := h.2 hc
              refine dd_Rn.ite 2 (c := x5 = 0) (A := (171, [.ref 148, .int x5], [.ref 148], sM Ln I10 L10 c s)) (B := (166, [.ref 148, .int x5], [.ref 148], sM Ln I10 L10 c s)) rfl (fun hc => ?_) (fun hc => ?_) (by omega)
              · have h := h.1 hc
                refine dd_Rn.cV 2 (pc := 174) (ls := [.ref 148, .int x5]) (st := [.int 0, .int 13, .ref 148]) (x := m_X11_emits) (as := [.ref 148, .int 13, .int 0]) (rest := []) rfl rfl rfl rfl h ?_
                intro I11 L11 h
                show dd_Rn (e + 16) m_X11_readAtom (177, [.ref 148, .int x5], [], sM Ln I11 L11 c s) _
                exact dd_Rn.retK 1 (pc := 178) (ls := [.ref 148, .int x5]) (st := [.int 1]) (M := sM Ln I11 L11 c s) (o := (none, .int 1, sM Ln I11 L11 c s)) rfl rfl h (by omega)
              · have h := h.2 hc
                refine dd_Rn.cV 3 (pc := 174) (ls := [.ref 148, .int x5]) (st := [.int 0, .int 12, .ref 148]) (x := m_X11_emits) (as := [.ref 148, .int 12, .int 0]) (rest := []) rfl rfl rfl rfl h ?_
                intro I12 L12 h
                show dd_Rn (e + 16) m_X11_readAtom (177, [.ref 148, .int x5], [], sM Ln I12 L12 c s) _
                exact dd_Rn.retK 1 (pc := 178) (ls := [.ref 148, .int x5]) (st := [.int 1]) (M := sM Ln I12 L12 c s) (o := (none, .int 1, sM Ln I12 L12 c s)) rfl rfl h (by omega)
      · have h := h.2 hc
        exact dd_Rn.retK 1 (pc := 122) (ls := [.ref 148, .null]) (st := [.int 1]) (M := sM Ln I3 L3 c s) (o := (none, .int 1, sM Ln I3 L3 c s)) rfl rfl h (by omega)
    · have h := h.2 hc
      refine dd_Rn.ite 3 (c := I2 148 13 = 6) (A := (74, [.ref 148, .null], [], sM Ln I2 L2 c s)) (B := (76, [.ref 148, .null], [], sM Ln I2 L2 c s)) rfl (fun hc => ?_) (fun hc => ?_) (by omega)
      · have h := h.1 hc
        exact dd_Rn.retK 1 (pc := 75) (ls := [.ref 148, .null]) (st := [.int 0]) (M := sM Ln I2 L2 c s) (o := (none, .int 0, sM Ln I2 L2 c s)) rfl rfl h (by omega)
      · have h := h.2 hc
        refine dd_Rn.cI 7 (pc := 87) (ls := [.ref 148, .null]) (st := [.ref 148]) (x := m_X11_readAtom) (as := [.ref 148]) (rest := []) rfl rfl rfl rfl h ?_
        intro x13 I13 L13 h
        show dd_Rn (e + 16) m_X11_readAtom (90, [.ref 148, .null], [.int x13], sM Ln I13 L13 c s) _
        refine dd_Rn.ite 0 (c := x13 = 0) (A := (93, [.ref 148, .null], [], sM Ln I13 L13 c s)) (B := (95, [.ref 148, .null], [], sM Ln I13 L13 c s)) rfl (fun hc => ?_) (fun hc => ?_) (by omega)
        · have h := h.1 hc
          exact dd_Rn.retK 1 (pc := 94) (ls := [.ref 148, .null]) (st := [.int 0]) (M := sM Ln I13 L13 c s) (o := (none, .int 0, sM Ln I13 L13 c s)) rfl rfl h (by omega)
        · have h := h.2 hc
          refine dd_Rn.cV 9 (pc := 109) (ls := [.ref 148, .null]) (st := [.int 0, .int 14, .ref 148]) (x := m_X11_emits) (as := [.ref 148, .int 14, .int 0]) (rest := []) rfl rfl rfl rfl h ?_
          intro I14 L14 h
          show dd_Rn (e + 16) m_X11_readAtom (112, [.ref 148, .null], [], sM Ln I14 L14 c s) _
          exact dd_Rn.retK 1 (pc := 113) (ls := [.ref 148, .null]) (st := [.int 1]) (M := sM Ln I14 L14 c s) (o := (none, .int 1, sM Ln I14 L14 c s)) rfl rfl h (by omega)
  · have h := h.2 hc
    refine dd_Rn.ite 3 (c := I1 148 13 = 6) (A := (18, [.ref 148, .null], [], sM Ln I1 L1 c s)) (B := (20, [.ref 148, .null], [], sM Ln I1 L1 c s)) rfl (fun hc => ?_) (fun hc => ?_) (by omega)
    · have h := h.1 hc
      exact dd_Rn.retK 1 (pc := 19) (ls := [.ref 148, .null]) (st := [.int 0]) (M := sM Ln I1 L1 c s) (o := (none, .int 0, sM Ln I1 L1 c s)) rfl rfl h (by omega)
    · have h := h.2 hc
      refine dd_Rn.cI 7 (pc := 31) (ls := [.ref 148, .null]) (st := [.ref 148]) (x := m_X11_readCond) (as := [.ref 148]) (rest := []) rfl rfl rfl rfl h ?_
      intro x15 I15 L15 h
      show dd_Rn (e + 16) m_X11_readAtom (34, [.ref 148, .null], [.int x15], sM Ln I15 L15 c s) _
      refine dd_Rn.ite 0 (c := x15 = 0) (A := (37, [.ref 148, .null], [], sM Ln I15 L15 c s)) (B := (39, [.ref 148, .null], [], sM Ln I15 L15 c s)) rfl (fun hc => ?_) (fun hc => ?_) (by omega)
      · have h := h.1 hc
        exact dd_Rn.retK 1 (pc := 38) (ls := [.ref 148, .null]) (st := [.int 0]) (M := sM Ln I15 L15 c s) (o := (none, .int 0, sM Ln I15 L15 c s)) rfl rfl h (by omega)
      · have h := h.2 hc
        refine dd_Rn.cI 8 (pc := 52) (ls := [.ref 148, .null]) (st := [.int 41, .ref 148]) (x := m_X11_sign) (as := [.ref 148, .int 41]) (rest := []) rfl rfl rfl rfl h ?_
        intro x16 I16 L16 h
        show dd_Rn (e + 16) m_X11_readAtom (55, [.ref 148, .null], [.int x16], sM Ln I16 L16 c s) _
        obtain ⟨hc, h⟩ := h
        exact dd_Rn.retB 0 (cf' := (55, [.ref 148, .null], [.int x16], sM Ln I16 L16 c s)) (v := x16) rfl rfl hc h (by omega)

theorem w_X11_readAllOf_0 {Ln d c s : Nat} {I : Nat → Nat → Int32} {L : Nat → Nat → Int64} {Q : dd_O → Prop} (hd : 28 ≤ d) (h : dd_Ev (d - 1) m_X11_readAtom [.ref 148] (sM Ln I L c s) (dd_RI Ln c s (fun x1 I1 L1 => ((x1 = 0 → Q (none, .int 0, sM Ln I1 L1 c s)) ∧ (¬ (x1 = 0) → dd_Rn d m_X11_readAllOf (9, [.ref 148], [], sM Ln I1 L1 c s) Q))))) : dd_Ev d m_X11_readAllOf [.ref 148] (sM Ln I L c s) Q := by
  obtain ⟨e, rfl⟩ : ∃ e, d = e + 16 := ⟨d - 16, by omega⟩
  show dd_Rn (e + 16) m_X11_readAllOf (0, [.ref 148], [], sM Ln I L c s) Q
  refine dd_Rn.cI 1 (pc := 1) (ls := [.ref 148]) (st := [.ref 148]) (x := m_X11_readAtom) (as := [.ref 148]) (rest := []) rfl rfl rfl rfl h ?_
  intro x1 I1 L1 h
  show dd_Rn (e + 16) m_X11_readAllOf (4, [.ref 148], [.int x1], sM Ln I1 L1 c s) _
  refine dd_Rn.ite 0 (c := x1 = 0) (A := (7, [.ref 148], [], sM Ln I1 L1 c s)) (B := (9, [.ref 148], [], sM Ln I1 L1 c s)) rfl (fun hc => ?_) (fun hc => ?_) (by omega)
  · have h := h.1 hc
    exact dd_Rn.retK 1 (pc := 8) (ls := [.ref 148]) (st := [.int 0]) (M := sM Ln I1 L1 c s) (o := (none, .int 0, sM Ln I1 L1 c s)) rfl rfl h (by omega)
  · have h := h.2 hc
    exact dd_Rn.go 0 (cf' := (9, [.ref 148], [], sM Ln I1 L1 c s)) rfl h (by omega)

theorem w_X11_readAllOf_9 {Ln d c s : Nat} {I : Nat → Nat → Int32} {L : Nat → Nat → Int64} {Q : dd_O → Prop} (hd : 28 ≤ d) (h : dd_Ev (d - 1) m_X11_passes [.ref 148, .ref 1000069] (sM Ln I L c s) (dd_RI Ln c s (fun x1 I1 L1 => ((x1 = 0 → Q (none, .int 1, sM Ln I1 L1 c s)) ∧ (¬ (x1 = 0) → dd_Ev (d - 1) m_X11_readAtom [.ref 148] (sM Ln I1 L1 c s) (dd_RI Ln c s (fun x2 I2 L2 => ((x2 = 0 → Q (none, .int 0, sM Ln I2 L2 c s)) ∧ (¬ (x2 = 0) → dd_Ev (d - 1) m_X11_emits [.ref 148, .int 15, .int 0] (sM Ln I2 L2 c s) (dd_RV Ln c s (fun I3 L3 => dd_Rn d m_X11_readAllOf (9, [.ref 148], [], sM Ln I3 L3 c s) Q))))))))))) : dd_Rn d m_X11_readAllOf (9, [.ref 148], [], sM Ln I L c s) Q := by
  obtain ⟨e, rfl⟩ : ∃ e, d = e + 16 := ⟨d - 16, by omega⟩
  refine dd_Rn.cI 2 (pc := 12) (ls := [.ref 148]) (st := [.ref 1000069, .ref 148]) (x := m_X11_passes) (as := [.ref 148, .ref 1000069]) (rest := []) rfl rfl rfl rfl h ?_
  intro x1 I1 L1 h
  show dd_Rn (e + 16) m_X11_readAllOf (15, [.ref 148], [.int x1], sM Ln I1 L1 c s) _
  refine dd_Rn.ite 0 (c := x1 = 0) (A := (37, [.ref 148], [], sM Ln I1 L1 c s)) (B := (18, [.ref 148], [], sM Ln I1 L1 c s)) rfl (fun hc => ?_) (fun hc => ?_) (by omega)
  · have h := h.1 hc
    exact dd_Rn.retK 1 (pc := 38) (ls := [.ref 148]) (st := [.int 1]) (M := sM Ln I1 L1 c s) (o := (none, .int 1, sM Ln I1 L1 c s)) rfl rfl h (by omega)
  · have h := h.2 hc
    refine dd_Rn.cI 1 (pc := 19) (ls := [.ref 148]) (st := [.ref 148]) (x := m_X11_readAtom) (as := [.ref 148]) (rest := []) rfl rfl rfl rfl h ?_
    intro x2 I2 L2 h
    show dd_Rn (e + 16) m_X11_readAllOf (22, [.ref 148], [.int x2], sM Ln I2 L2 c s) _
    refine dd_Rn.ite 0 (c := x2 = 0) (A := (25, [.ref 148], [], sM Ln I2 L2 c s)) (B := (27, [.ref 148], [], sM Ln I2 L2 c s)) rfl (fun hc => ?_) (fun hc => ?_) (by omega)
    · have h := h.1 hc
      exact dd_Rn.retK 1 (pc := 26) (ls := [.ref 148]) (st := [.int 0]) (M := sM Ln I2 L2 c s) (o := (none, .int 0, sM Ln I2 L2 c s)) rfl rfl h (by omega)
    · have h := h.2 hc
      refine dd_Rn.cV 3 (pc := 31) (ls := [.ref 148]) (st := [.int 0, .int 15, .ref 148]) (x := m_X11_emits) (as := [.ref 148, .int 15, .int 0]) (rest := []) rfl rfl rfl rfl h ?_
      intro I3 L3 h
      show dd_Rn (e + 16) m_X11_readAllOf (34, [.ref 148], [], sM Ln I3 L3 c s) _
      exact dd_Rn.go 1 (cf' := (9, [.ref 148], [], sM Ln I3 L3 c s)) rfl h (by omega)

theorem w_X11_readCond_0 {Ln d c s : Nat} {I : Nat → Nat → Int32} {L : Nat → Nat → Int64} {Q : dd_O → Prop} (hd : 28 ≤ d) (h : dd_Ev (d - 1) m_X11_readAllOf [.ref 148] (sM Ln I L c s) (dd_RI Ln c s (fun x1 I1 L1 => ((x1 = 0 → Q (none, .int 0, sM Ln I1 L1 c s)) ∧ (¬ (x1 = 0) → dd_Rn d m_X11_readCond (9, [.ref 148], [], sM Ln I1 L1 c s) Q))))) : dd_Ev d m_X11_readCond [.ref 148] (sM Ln I L c s) Q := by
  obtain ⟨e, rfl⟩ : ∃ e, d = e + 16 := ⟨d - 16, by omega⟩
  show dd_Rn (e + 16) m_X11_readCond (0, [.ref 148], [], sM Ln I L c s) Q
  refine dd_Rn.cI 1 (pc := 1) (ls := [.ref 148]) (st := [.ref 148]) (x := m_X11_readAllOf) (as := [.ref 148]) (rest := []) rfl rfl rfl rfl h ?_
  intro x1 I1 L1 h
  show dd_Rn (e + 16) m_X11_readCond (4, [.ref 148], [.int x1], sM Ln I1 L1 c s) _
  refine dd_Rn.ite 0 (c := x1 = 0) (A := (7, [.ref 148], [], sM Ln I1 L1 c s)) (B := (9, [.ref 148], [], sM Ln I1 L1 c s)) rfl (fun hc => ?_) (fun hc => ?_) (by omega)
  · have h := h.1 hc
    exact dd_Rn.retK 1 (pc := 8) (ls := [.ref 148]) (st := [.int 0]) (M := sM Ln I1 L1 c s) (o := (none, .int 0, sM Ln I1 L1 c s)) rfl rfl h (by omega)
  · have h := h.2 hc
    exact dd_Rn.go 0 (cf' := (9, [.ref 148], [], sM Ln I1 L1 c s)) rfl h (by omega)

theorem w_X11_readCond_9 {Ln d c s : Nat} {I : Nat → Nat → Int32} {L : Nat → Nat → Int64} {Q : dd_O → Prop} (hd : 28 ≤ d) (h : dd_Ev (d - 1) m_X11_passes [.ref 148, .ref 1000070] (sM Ln I L c s) (dd_RI Ln c s (fun x1 I1 L1 => ((x1 = 0 → Q (none, .int 1, sM Ln I1 L1 c s)) ∧ (¬ (x1 = 0) → dd_Ev (d - 1) m_X11_readAllOf [.ref 148] (sM Ln I1 L1 c s) (dd_RI Ln c s (fun x2 I2 L2 => ((x2 = 0 → Q (none, .int 0, sM Ln I2 L2 c s)) ∧ (¬ (x2 = 0) → dd_Ev (d - 1) m_X11_emits [.ref 148, .int 16, .int 0] (sM Ln I2 L2 c s) (dd_RV Ln c s (fun I3 L3 => dd_Rn d m_X11_readCond (9, [.ref 148], [], sM Ln I3 L3 c s) Q))))))))))) : dd_Rn d m_X11_readCond (9, [.ref 148], [], sM Ln I L c s) Q := by
  obtain ⟨e, rfl⟩ : ∃ e, d = e + 16 := ⟨d - 16, by omega⟩
  refine dd_Rn.cI 2 (pc := 12) (ls := [.ref 148]) (st := [.ref 1000070, .ref 148]) (x := m_X11_passes) (as := [.ref 148, .ref 1000070]) (rest := []) rfl rfl rfl rfl h ?_
  intro x1 I1 L1 h
  show dd_Rn (e + 16) m_X11_readCond (15, [.ref 148], [.int x1], sM Ln I1 L1 c s) _
  refine dd_Rn.ite 0 (c := x1 = 0) (A := (37, [.ref 148], [], sM Ln I1 L1 c s)) (B := (18, [.ref 148], [], sM Ln I1 L1 c s)) rfl (fun hc => ?_) (fun hc => ?_) (by omega)
  · have h := h.1 hc
    exact dd_Rn.retK 1 (pc := 38) (ls := [.ref 148]) (st := [.int 1]) (M := sM Ln I1 L1 c s) (o := (none, .int 1, sM Ln I1 L1 c s)) rfl rfl h (by omega)
  · have h := h.2 hc
    refine dd_Rn.cI 1 (pc := 19) (ls := [.ref 148]) (st := [.ref 148]) (x := m_X11_readAllOf) (as := [.ref 148]) (rest := []) rfl rfl rfl rfl h ?_
    intro x2 I2 L2 h
    show dd_Rn (e + 16) m_X11_readCond (22, [.ref 148], [.int x2], sM Ln I2 L2 c s) _
    refine dd_Rn.ite 0 (c := x2 = 0) (A := (25, [.ref 148], [], sM Ln I2 L2 c s)) (B := (27, [.ref 148], [], sM Ln I2 L2 c s)) rfl (fun hc => ?_) (fun hc => ?_) (by omega)
    · have h := h.1 hc
      exact dd_Rn.retK 1 (pc := 26) (ls := [.ref 148]) (st := [.int 0]) (M := sM Ln I2 L2 c s) (o := (none, .int 0, sM Ln I2 L2 c s)) rfl rfl h (by omega)
    · have h := h.2 hc
      refine dd_Rn.cV 3 (pc := 31) (ls := [.ref 148]) (st := [.int 0, .int 16, .ref 148]) (x := m_X11_emits) (as := [.ref 148, .int 16, .int 0]) (rest := []) rfl rfl rfl rfl h ?_
      intro I3 L3 h
      show dd_Rn (e + 16) m_X11_readCond (34, [.ref 148], [], sM Ln I3 L3 c s) _
      exact dd_Rn.go 1 (cf' := (9, [.ref 148], [], sM Ln I3 L3 c s)) rfl h (by omega)

theorem w_X11_readLawLine_0 {Ln d c s : Nat} {I : Nat → Nat → Int32} {L : Nat → Nat → Int64} {Q : dd_O → Prop} {a1 : Int32} (hd : 28 ≤ d) (h : dd_Ev (d - 1) m_X11_isWord [.ref 148, .ref 1000058] (sM Ln I L c s) (dd_RI Ln c s (fun x1 I1 L1 => ((x1 = 0 → dd_Ev (d - 1) m_X11_isWord [.ref 148, .ref 1000059] (sM Ln I1 L1 c s) (dd_RI Ln c s (fun x2 I2 L2 => ((x2 = 0 → dd_Ev (d - 1) m_X11_isWord [.ref 148, .ref 1000060] (sM Ln I2 L2 c s) (dd_RI Ln c s (fun x3 I3 L3 => ((x3 = 0 → ((0 ≤ (1372 : Int32) + ((4 : Int32) * a1) ∧ tn ((1372 : Int32) + ((4 : Int32) * a1)) < 2220) ∧ ((0 ≤ (1372 : Int32) + ((4 : Int32) * a1) ∧ tn ((1372 : Int32) + ((4 : Int32) * a1)) < 2220) ∧ (((0 : Int32) ≤ (upd (I3 149) (tn ((1372 : Int32) + ((4 : Int32) * a1))) (-1)) (tn ((1372 : Int32) + ((4 : Int32) * a1))) → ((0 ≤ (1372 : Int32) + ((4 : Int32) * a1) ∧ tn ((1372 : Int32) + ((4 : Int32) * a1)) < 2220) ∧ (((upd (I3 149) (tn ((1372 : Int32) + ((4 : Int32) * a1))) (-1)) (tn ((1372 : Int32) + ((4 : Int32) * a1))) = 2 → dd_Rn d m_X11_readLawLine (95, [.ref 148, .int a1, .int ((1372 : Int32) + ((4 : Int32) * a1))], [.int 1, .int (((1372 : Int32) + ((4 : Int32) * a1)) + 1), .ref 149], sM Ln (dd_u I3 149 (upd (I3 149) (tn ((1372 : Int32) + ((4 : Int32) * a1))) (-1))) L3 c s) Q) ∧ (¬ ((upd (I3 149) (tn ((1372 : Int32) + ((4 : Int32) * a1))) (-1)) (tn ((1372 : Int32) + ((4 : Int32) * a1))) = 2) → dd_Ev (d - 1) m_X11_number [.ref 148, .int 0, .int 20] (sM Ln (dd_u I3 149 (upd (I3 149) (tn ((1372 : Int32) + ((4 : Int32) * a1))) (-1))) L3 c s) (dd_RI Ln c s (fun x4 I4 L4 => dd_Rn d m_X11_readLawLine (95, [.ref 148, .int a1, .int ((1372 : Int32) + ((4 : Int32) * a1))], [.int x4, .int (((1372 : Int32) + ((4 : Int32) * a1)) + 1), .ref 149], sM Ln I4 L4 c s) Q)))))) ∧ (¬ ((0 : Int32) ≤ (upd (I3 149) (tn ((1372 : Int32) + ((4 : Int32) * a1))) (-1)) (tn ((1372 : Int32) + ((4 : Int32) * a1)))) → Q (none, .int 0, sM Ln (dd_u I3 149 (upd (I3 149) (tn ((1372 : Int32) + ((4 : Int32) * a1))) (-1))) L3 c s)))))) ∧ (¬ (x3 = 0) → ((0 ≤ (1372 : Int32) + ((4 : Int32) * a1) ∧ tn ((1372 : Int32) + ((4 : Int32) * a1)) < 2220) ∧ ((0 ≤ (1372 : Int32) + ((4 : Int32) * a1) ∧ tn ((1372 : Int32) + ((4 : Int32) * a1)) < 2220) ∧ (((0 : Int32) ≤ (upd (I3 149) (tn ((1372 : Int32) + ((4 : Int32) * a1))) 2) (tn ((1372 : Int32) + ((4 : Int32) * a1))) → ((0 ≤ (1372 : Int32) + ((4 : Int32) * a1) ∧ tn ((1372 : Int32) + ((4 : Int32) * a1)) < 2220) ∧ (((upd (I3 149) (tn ((1372 : Int32) + ((4 : Int32) * a1))) 2) (tn ((1372 : Int32) + ((4 : Int32) * a1))) = 2 → dd_Rn d m_X11_readLawLine (95, [.ref 148, .int a1, .int ((1372 : Int32) + ((4 : Int32) * a1))], [.int 1, .int (((1372 : Int32) + ((4 : Int32) * a1)) + 1), .ref 149], sM Ln (dd_u I3 149 (upd (I3 149) (tn ((1372 : Int32) + ((4 : Int32) * a1))) 2)) L3 c s) Q) ∧ (¬ ((upd (I3 149) (tn ((1372 : Int32) + ((4 : Int32) * a1))) 2) (tn ((1372 : Int32) + ((4 : Int32) * a1))) = 2) → dd_Ev (d - 1) m_X11_number [.ref 148, .int 0, .int 20] (sM Ln (dd_u I3 149 (upd (I3 149) (tn ((1372 : Int32) + ((4 : Int32) * a1))) 2)) L3 c s) (dd_RI Ln c s (fun x5 I5 L5 => dd_Rn d m_X11_readLawLine (95, [.ref 148, .int a1, .int ((1372 : Int32) + ((4 : Int32) * a1))], [.int x5, .int (((1372 : Int32) + ((4 : Int32) * a1)) + 1), .ref 149], sM Ln I5 L5 c s) Q)))))) ∧ (¬ ((0 : Int32) ≤ (upd (I3 149) (tn ((1372 : Int32) + ((4 : Int32) * a1))) 2) (tn ((1372 : Int32) + ((4 : Int32) * a1)))) → Q (none, .int 0, sM Ln (dd_u I3 149 (upd (I3 149) (tn ((1372 : Int32) + ((4 : Int32) * a1))) 2)) L3 c s)))))))))) ∧ (¬ (x2 = 0) → ((0 ≤ (1372 : Int32) + ((4 : Int32) * a1) ∧ tn ((1372 : Int32) + ((4 : Int32) * a1)) < 2220) ∧ ((0 ≤ (1372 : Int32) + ((4 : Int32) * a1) ∧ tn ((1372 : Int32) + ((4 : Int32) * a1)) < 2220) ∧ (((0 : Int32) ≤ (upd (I2 149) (tn ((1372 : Int32) + ((4 : Int32) * a1))) 1) (tn ((1372 : Int32) + ((4 : Int32) * a1))) → ((0 ≤ (1372 : Int32) + ((4 : Int32) * a1) ∧ tn ((1372 : Int32) + ((4 : Int32) * a1)) < 2220) ∧ (((upd (I2 149) (tn ((1372 : Int32) + ((4 : Int32) * a1))) 1) (tn ((1372 : Int32) + ((4 : Int32) * a1))) = 2 → dd_Rn d m_X11_readLawLine (95, [.ref 148, .int a1, .int ((1372 : Int32) + ((4 : Int32) * a1))], [.int 1, .int (((1372 : Int32) + ((4 : Int32) * a1)) + 1), .ref 149], sM Ln (dd_u I2 149 (upd (I2 149) (tn ((1372 : Int32) + ((4 : Int32) * a1))) 1)) L2 c s) Q) ∧ (¬ ((upd (I2 149) (tn ((1372 : Int32) + ((4 : Int32) * a1))) 1) (tn ((1372 : Int32) + ((4 : Int32) * a1))) = 2) → dd_Ev (d - 1) m_X11_number [.ref 148, .int 0, .int 20] (sM Ln (dd_u I2 149 (upd (I2 149) (tn ((1372 : Int32) + ((4 : Int32) * a1))) 1)) L2 c s) (dd_RI Ln c s (fun x6 I6 L6 => dd_Rn d m_X11_readLawLine (95, [.ref 148, .int a1, .int ((1372 : Int32) + ((4 : Int32) * a1))], [.int x6, .int (((1372 : Int32) + ((4 : Int32) * a1)) + 1), .ref 149], sM Ln I6 L6 c s) Q)))))) ∧ (¬ ((0 : Int32) ≤ (upd (I2 149) (tn ((1372 : Int32) + ((4 : Int32) * a1))) 1) (tn ((1372 : Int32) + ((4 : Int32) * a1)))) → Q (none, .int 0, sM Ln (dd_u I2 149 (upd (I2 149) (tn ((1372 : Int32) + ((4 : Int32) * a1))) 1)) L2 c s)))))))))) ∧ (¬ (x1 = 0) → ((0 ≤ (1372 : Int32) + ((4 : Int32) * a1) ∧ tn ((1372 : Int32) + ((4 : Int32) * a1)) < 2220) ∧ ((0 ≤ (1372 : Int32) + ((4 : Int32) * a1) ∧ tn ((1372 : Int32) + ((4 : Int32) * a1)) < 2220) ∧ (((0 : Int32) ≤ (upd (I1 149) (tn ((1372 : Int32) + ((4 : Int32) * a1))) 0) (tn ((1372 : Int32) + ((4 : Int32) * a1))) → ((0 ≤ (1372 : Int32) + ((4 : Int32) * a1) ∧ tn ((1372 : Int32) + ((4 : Int32) * a1)) < 2220) ∧ (((upd (I1 149) (tn ((1372 : Int32) + ((4 : Int32) * a1))) 0) (tn ((1372 : Int32) + ((4 : Int32) * a1))) = 2 → dd_Rn d m_X11_readLawLine (95, [.ref 148, .int a1, .int ((1372 : Int32) + ((4 : Int32) * a1))], [.int 1, .int (((1372 : Int32) + ((4 : Int32) * a1)) + 1), .ref 149], sM Ln (dd_u I1 149 (upd (I1 149) (tn ((1372 : Int32) + ((4 : Int32) * a1))) 0)) L1 c s) Q) ∧ (¬ ((upd (I1 149) (tn ((1372 : Int32) + ((4 : Int32) * a1))) 0) (tn ((1372 : Int32) + ((4 : Int32) * a1))) = 2) → dd_Ev (d - 1) m_X11_number [.ref 148, .int 0, .int 20] (sM Ln (dd_u I1 149 (upd (I1 149) (tn ((1372 : Int32) + ((4 : Int32) * a1))) 0)) L1 c s) (dd_RI Ln c s (fun x7 I7 L7 => dd_Rn d m_X11_readLawLine (95, [.ref 148, .int a1, .int ((1372 : Int32) + ((4 : Int32) * a1))], [.int x7, .int (((1372 : Int32) + ((4 : Int32) * a1)) + 1), .ref 149], sM Ln I7 L7 c s) Q)))))) ∧ (¬ ((0 : Int32) ≤ (upd (I1 149) (tn ((1372 : Int32) + ((4 : Int32) * a1))) 0) (tn ((1372 : Int32) + ((4 : Int32) * a1)))) → Q (none, .int 0, sM Ln (dd_u I1 149 (upd (I1 149) (tn ((1372 : Int32) + ((4 : Int32) * a1))) 0)) L1 c s)))))))))) : dd_Ev d m_X11_readLawLine [.ref 148, .int a1] (sM Ln I L c s) Q := by
  obtain ⟨e, rfl⟩ : ∃ e, d = e + 16 := ⟨d - 16, by omega⟩
  show dd_Rn (e + 16) m_X11_readLawLine (0, [.ref 148, .int a1, .null], [], sM Ln I L c s) Q
  refine dd_Rn.cI 11 (pc := 16) (ls := [.ref 148, .int a1, .int ((1372 : Int32) + ((4 : Int32) * a1))]) (st := [.ref 1000058, .ref 148, .int ((1372 : Int32) + ((4 : Int32) * a1)), .ref 149]) (x := m_X11_isWord) (as := [.ref 148, .ref 1000058]) (rest := [.int ((1372 : Int32) + ((4 : Int32) * a1)), .ref 149]) rfl rfl rfl rfl h ?_
  intro x1 I1 L1 h
  show dd_Rn (e + 16) m_X11_readLawLine (19, [.ref 148, .int a1, .int ((1372 : Int32) + ((4 : Int32) * a1))], [.int x1, .int ((1372 : Int32) + ((4 : Int32) * a1)), .ref 149], sM Ln I1 L1 c s) _
  refine dd_Rn.ite 0 (c := x1 = 0) (A := (26, [.ref 148, .int a1, .int ((1372 : Int32) + ((4 : Int32) * a1))], [.int ((1372 : Int32) + ((4 : Int32) * a1)), .ref 149], sM Ln I1 L1 c s)) (B := (22, [.ref 148, .int a1, .int ((1372 : Int32) + ((4 : Int32) * a1))], [.int ((1372 : Int32) + ((4 : Int32) * a1)), .ref 149], sM Ln I1 L1 c s)) rfl (fun hc => ?_) (fun hc => ?_) (by omega)
  · have h := h.1 hc
    refine dd_Rn.cI 2 (pc := 30) (ls := [.ref 148, .int a1, .int ((1372 : Int32) + ((4 : Int32) * a1))]) (st := [.ref 1000059, .ref 148, .int ((1372 : Int32) + ((4 : Int32) * a1)), .ref 149]) (x := m_X11_isWord) (as := [.ref 148, .ref 1000059]) (rest := [.int ((1372 : Int32) + ((4 : Int32) * a1)), .ref 149]) rfl rfl rfl rfl h ?_
    intro x2 I2 L2 h
    show dd_Rn (e + 16) m_X11_readLawLine (33, [.ref 148, .int a1, .int ((1372 : Int32) + ((4 : Int32) * a1))], [.int x2, .int ((1372 : Int32) + ((4 : Int32) * a1)), .ref 149], sM Ln I2 L2 c s) _
    refine dd_Rn.ite 0 (c := x2 = 0) (A := (40, [.ref 148, .int a1, .int ((1372 : Int32) + ((4 : Int32) * a1))], [.int ((1372 : Int32) + ((4 : Int32) * a1)), .ref 149], sM Ln I2 L2 c s)) (B := (36, [.ref 148, .int a1, .int ((1372 : Int32) + ((4 : Int32) * a1))], [.int ((1372 : Int32) + ((4 : Int32) * a1)), .ref 149], sM Ln I2 L2 c s)) rfl (fun hc => ?_) (fun hc => ?_) (by omega)
    · have h := h.1 hc
      refine dd_Rn.cI 2 (pc := 44) (ls := [.ref 148, .int a1, .int ((1372 : Int32) + ((4 : Int32) * a1))]) (st := [.ref 1000060, .ref 148, .int ((1372 : Int32) + ((4 : Int32) * a1)), .ref 149]) (x := m_X11_isWord) (as := [.ref 148, .ref 1000060]) (rest := [.int ((1372 : Int32) + ((4 : Int32) * a1)), .ref 149]) rfl rfl rfl rfl h ?_
      intro x3 I3 L3 h
      show dd_Rn (e + 16) m_X11_readLawLine (47, [.ref 148, .int a1, .int ((1372 : Int32) + ((4 : Int32) * a1))], [.int x3, .int ((1372 : Int32) + ((4 : Int32) * a1)), .ref 149], sM Ln I3 L3 c s) _
      refine dd_Rn.ite 0 (c := x3 = 0) (A := (54, [.ref 148, .int a1, .int ((1372 : Int32) + ((4 : Int32) * a1))], [.int ((1372 : Int32) + ((4 : Int32) * a1)), .ref 149], sM Ln I3 L3 c s)) (B := (50, [.ref 148, .int a1, .int ((1372 : Int32) + ((4 : Int32) * a1))], [.int ((1372 : Int32) + ((4 : Int32) * a1)), .ref 149], sM Ln I3 L3 c s)) rfl (fun hc => ?_) (fun hc => ?_) (by omega)
      · have h := h.1 hc
        obtain ⟨hc, h⟩ := h
        refine dd_Rn.go 1 (cf' := (55, [.ref 148, .int a1, .int ((1372 : Int32) + ((4 : Int32) * a1))], [.int (-1), .int ((1372 : Int32) + ((4 : Int32) * a1)), .ref 149], sM Ln I3 L3 c s)) rfl ?_ (by omega)
        refine dd_Rn.ci (fun j0 => (55, [.ref 148, .int a1, .int ((1372 : Int32) + ((4 : Int32) * a1))], [.int (-1), .int j0, .ref 149], sM Ln I3 L3 c s)) (fun j0 => (56, [.ref 148, .int a1, .int ((1372 : Int32) + ((4 : Int32) * a1))], [], sM Ln (dd_u I3 149 (upd (I3 149) (tn j0) (-1))) L3 c s)) (fun j0 => 0 ≤ j0 ∧ tn j0 < 2220) ((1372 : Int32) + ((4 : Int32) * a1)) (fun j0 hc h => dd_Rn.chk 0 (c := 0 ≤ j0 ∧ tn j0 < 2220) (A := (56, [.ref 148, .int a1, .int ((1372 : Int32) + ((4 : Int32) * a1))], [], sM Ln (dd_u I3 149 (upd (I3 149) (tn j0) (-1))) L3 c s)) rfl hc h (by omega)) hc ?_
        refine dd_Rn.se (cf := (56, [.ref 148, .int a1, .int ((1372 : Int32) + ((4 : Int32) * a1))], [], sM Ln (dd_u I3 149 (upd (I3 149) (tn ((1372 : Int32) + ((4 : Int32) * a1))) (-1))) L3 c s)) ?_
        obtain ⟨hc, h⟩ := h
        refine dd_Rn.go 3 (cf' := (61, [.ref 148, .int a1, .int ((1372 : Int32) + ((4 : Int32) * a1))], [.int ((1372 : Int32) + ((4 : Int32) * a1)), .ref 149], sM Ln (dd_u I3 149 (upd (I3 149) (tn ((1372 : Int32) + ((4 : Int32) * a1))) (-1))) L3 c s)) rfl ?_ (by omega)
        refine dd_Rn.ci (fun j0 => (61, [.ref 148, .int a1, .int ((1372 : Int32) + ((4 : Int32) * a1))], [.int j0, .ref 149], sM Ln (dd_u I3 149 (upd (I3 149) (tn ((1372 : Int32) + ((4 : Int32) * a1))) (-1))) L3 c s)) (fun j0 => (62, [.ref 148, .int a1, .int ((1372 : Int32) + ((4 : Int32) * a1))], [.int ((upd (I3 149) (tn ((1372 : Int32) + ((4 : Int32) * a1))) (-1)) (tn j0))], sM Ln (dd_u I3 149 (upd (I3 149) (tn ((1372 : Int32) + ((4 : Int32) * a1))) (-1))) L3 c s)) (fun j0 => 0 ≤ j0 ∧ tn j0 < 2220) ((1372 : Int32) + ((4 : Int32) * a1)) (fun j0 hc h => dd_Rn.chk 0 (c := 0 ≤ j0 ∧ tn j0 < 2220) (A := (62, [.ref 148, .int a1, .int ((1372 : Int32) + ((4 : Int32) * a1))], [.int ((upd (I3 149) (tn ((1372 : Int32) + ((4 : Int32) * a1))) (-1)) (tn j0))], sM Ln (dd_u I3 149 (upd (I3 149) (tn ((1372 : Int32) + ((4 : Int32) * a1))) (-1))) L3 c s)) rfl hc h (by omega)) hc ?_
        refine dd_Rn.se (cf := (62, [.ref 148, .int a1, .int ((1372 : Int32) + ((4 : Int32) * a1))], [.int ((upd (I3 149) (tn ((1372 : Int32) + ((4 : Int32) * a1))) (-1)) (tn ((1372 : Int32) + ((4 : Int32) * a1))))], sM Ln (dd_u I3 149 (upd (I3 149) (tn ((1372 : Int32) + ((4 : Int32) * a1))) (-1))) L3 c s)) ?_
        refine dd_Rn.ite 0 (c := (0 : Int32) ≤ (upd (I3 149) (tn ((1372 : Int32) + ((4 : Int32) * a1))) (-1)) (tn ((1372 : Int32) + ((4 : Int32) * a1)))) (A := (67, [.ref 148, .int a1, .int ((1372 : Int32) + ((4 : Int32) * a1))], [], sM Ln (dd_u I3 149 (upd (I3 149) (tn ((1372 : Int32) + ((4 : Int32) * a1))) (-1))) L3 c s)) (B := (65, [.ref 148, .int a1, .int ((1372 : Int32) + ((4 : Int32) * a1))], [], sM Ln (dd_u I3 149 (upd (I3 149) (tn ((1372 : Int32) + ((4 : Int32) * a1))) (-1))) L3 c s)) rfl (fun hc => ?_) (fun hc => ?_) (by omega)
        · have h := h.1 hc
          obtain ⟨hc, h⟩ := h
          refine dd_Rn.go 8 (cf' := (79, [.ref 148, .int a1, .int ((1372 : Int32) + ((4 : Int32) * a1))], [.int ((1372 : Int32) + ((4 : Int32) * a1)), .ref 149, .int (((1372 : Int32) + ((4 : Int32) * a1)) + 1), .ref 149], sM Ln (dd_u I3 149 (upd (I3 149) (tn ((1372 : Int32) + ((4 : Int32) * a1))) (-1))) L3 c s)) rfl ?_ (by omega)
          refine dd_Rn.ci (fun j0 => (79, [.ref 148, .int a1, .int ((1372 : Int32) + ((4 : Int32) * a1))], [.int j0, .ref 149, .int (((1372 : Int32) + ((4 : Int32) * a1)) + 1), .ref 149], sM Ln (dd_u I3 149 (upd (I3 149) (tn ((1372 : Int32) + ((4 : Int32) * a1))) (-1))) L3 c s)) (fun j0 => (80, [.ref 148, .int a1, .int ((1372 : Int32) + ((4 : Int32) * a1))], [.int ((upd (I3 149) (tn ((1372 : Int32) + ((4 : Int32) * a1))) (-1)) (tn j0)), .int (((1372 : Int32) + ((4 : Int32) * a1)) + 1), .ref 149], sM Ln (dd_u I3 149 (upd (I3 149) (tn ((1372 : Int32) + ((4 : Int32) * a1))) (-1))) L3 c s)) (fun j0 => 0 ≤ j0 ∧ tn j0 < 2220) ((1372 : Int32) + ((4 : Int32) * a1)) (fun j0 hc h => dd_Rn.chk 0 (c := 0 ≤ j0 ∧ tn j0 < 2220) (A := (80, [.ref 148, .int a1, .int ((1372 : Int32) + ((4 : Int32) * a1))], [.int ((upd (I3 149) (tn ((1372 : Int32) + ((4 : Int32) * a1))) (-1)) (tn j0)), .int (((1372 : Int32) + ((4 : Int32) * a1)) + 1), .ref 149], sM Ln (dd_u I3 149 (upd (I3 149) (tn ((1372 : Int32) + ((4 : Int32) * a1))) (-1))) L3 c s)) rfl hc h (by omega)) hc ?_
          refine dd_Rn.se (cf := (80, [.ref 148, .int a1, .int ((1372 : Int32) + ((4 : Int32) * a1))], [.int ((upd (I3 149) (tn ((1372 : Int32) + ((4 : Int32) * a1))) (-1)) (tn ((1372 : Int32) + ((4 : Int32) * a1)))), .int (((1372 : Int32) + ((4 : Int32) * a1)) + 1), .ref 149], sM Ln (dd_u I3 149 (upd (I3 149) (tn ((1372 : Int32) + ((4 : Int32) * a1))) (-1))) L3 c s)) ?_
          refine dd_Rn.ite 1 (c := (upd (I3 149) (tn ((1372 : Int32) + ((4 : Int32) * a1))) (-1)) (tn ((1372 : Int32) + ((4 : Int32) * a1))) = 2) (A := (84, [.ref 148, .int a1, .int ((1372 : Int32) + ((4 : Int32) * a1))], [.int (((1372 : Int32) + ((4 : Int32) * a1)) + 1), .ref 149], sM Ln (dd_u I3 149 (upd (I3 149) (tn ((1372 : Int32) + ((4 : Int32) * a1))) (-1))) L3 c s)) (B := (88, [.ref 148, .int a1, .int ((1372 : Int32) + ((4 : Int32) * a1))], [.int (((1372 : Int32) + ((4 : Int32) * a1)) + 1), .ref 149], sM Ln (dd_u I3 149 (upd (I3 149) (tn ((1372 : Int32) + ((4 : Int32) * a1))) (-1))) L3 c s)) rfl (fun hc => ?_) (fun hc => ?_) (by omega)
          · have h := h.1 hc
            exact dd_Rn.go 2 (cf' := (95, [.ref 148, .int a1, .int ((1372 : Int32) + ((4 : Int32) * a1))], [.int 1, .int (((1372 : Int32) + ((4 : Int32) * a1)) + 1), .ref 149], sM Ln (dd_u I3 149 (upd (I3 149) (tn ((1372 : Int32) + ((4 : Int32) * a1))) (-1))) L3 c s)) rfl h (by omega)
          · have h := h.2 hc
            refine dd_Rn.cI 3 (pc := 92) (ls := [.ref 148, .int a1, .int ((1372 : Int32) + ((4 : Int32) * a1))]) (st := [.int 20, .int 0, .ref 148, .int (((1372 : Int32) + ((4 : Int32) * a1)) + 1), .ref 149]) (x := m_X11_number) (as := [.ref 148, .int 0, .int 20]) (rest := [.int (((1372 : Int32) + ((4 : Int32) * a1)) + 1), .ref 149]) rfl rfl rfl rfl h ?_
            intro x4 I4 L4 h
            show dd_Rn (e + 16) m_X11_readLawLine (95, [.ref 148, .int a1, .int ((1372 : Int32) + ((4 : Int32) * a1))], [.int x4, .int (((1372 : Int32) + ((4 : Int32) * a1)) + 1), .ref 149], sM Ln I4 L4 c s) _
            exact dd_Rn.go 0 (cf' := (95, [.ref 148, .int a1, .int ((1372 : Int32) + ((4 : Int32) * a1))], [.int x4, .int (((1372 : Int32) + ((4 : Int32) * a1)) + 1), .ref 149], sM Ln I4 L4 c s)) rfl h (by omega)
        · have h := h.2 hc
          exact dd_Rn.retK 1 (pc := 66) (ls := [.ref 148, .int a1, .int ((1372 : Int32) + ((4 : Int32) * a1))]) (st := [.int 0]) (M := sM Ln (dd_u I3 149 (upd (I3 149) (tn ((1372 : Int32) + ((4 : Int32) * a1))) (-1))) L3 c s) (o := (none, .int 0, sM Ln (dd_u I3 149 (upd (I3 149) (tn ((1372 : Int32) + ((4 : Int32) * a1))) (-1))) L3 c s)) rfl rfl h (by omega)
      · have h := h.2 hc
        obtain ⟨hc, h⟩ := h
        refine dd_Rn.go 2 (cf' := (55, [.ref 148, .int a1, .int ((1372 : Int32) + ((4 : Int32) * a1))], [.int 2, .int ((1372 : Int32) + ((4 : Int32) * a1)), .ref 149], sM Ln I3 L3 c s)) rfl ?_ (by omega)
        refine dd_Rn.ci (fun j0 => (55, [.ref 148, .int a1, .int ((1372 : Int32) + ((4 : Int32) * a1))], [.int 2, .int j0, .ref 149], sM Ln I3 L3 c s)) (fun j0 => (56, [.ref 148, .int a1, .int ((1372 : Int32) + ((4 : Int32) * a1))], [], sM Ln (dd_u I3 149 (upd (I3 149) (tn j0) 2)) L3 c s)) (fun j0 => 0 ≤ j0 ∧ tn j0 < 2220) ((1372 : Int32) + ((4 : Int32) * a1)) (fun j0 hc h => dd_Rn.chk 0 (c := 0 ≤ j0 ∧ tn j0 < 2220) (A := (56, [.ref 148, .int a1, .int ((1372 : Int32) + ((4 : Int32) * a1))], [], sM Ln (dd_u I3 149 (upd (I3 149) (tn j0) 2)) L3 c s)) rfl hc h (by omega)) hc ?_
        refine dd_Rn.se (cf := (56, [.ref 148, .int a1, .int ((1372 : Int32) + ((4 : Int32) * a1))], [], sM Ln (dd_u I3 149 (upd (I3 149) (tn ((1372 : Int32) + ((4 : Int32) * a1))) 2)) L3 c s)) ?_
        obtain ⟨hc, h⟩ := h
        refine dd_Rn.go 3 (cf' := (61, [.ref 148, .int a1, .int ((1372 : Int32) + ((4 : Int32) * a1))], [.int ((1372 : Int32) + ((4 : Int32) * a1)), .ref 149], sM Ln (dd_u I3 149 (upd (I3 149) (tn ((1372 : Int32) + ((4 : Int32) * a1))) 2)) L3 c s)) rfl ?_ (by omega)
        refine dd_Rn.ci (fun j0 => (61, [.ref 148, .int a1, .int ((1372 : Int32) + ((4 : Int32) * a1))], [.int j0, .ref 149], sM Ln (dd_u I3 149 (upd (I3 149) (tn ((1372 : Int32) + ((4 : Int32) * a1))) 2)) L3 c s)) (fun j0 => (62, [.ref 148, .int a1, .int ((1372 : Int32) + ((4 : Int32) * a1))], [.int ((upd (I3 149) (tn ((1372 : Int32) + ((4 : Int32) * a1))) 2) (tn j0))], sM Ln (dd_u I3 149 (upd (I3 149) (tn ((1372 : Int32) + ((4 : Int32) * a1))) 2)) L3 c s)) (fun j0 => 0 ≤ j0 ∧ tn j0 < 2220) ((1372 : Int32) + ((4 : Int32) * a1)) (fun j0 hc h => dd_Rn.chk 0 (c := 0 ≤ j0 ∧ tn j0 < 2220) (A := (62, [.ref 148, .int a1, .int ((1372 : Int32) + ((4 : Int32) * a1))], [.int ((upd (I3 149) (tn ((1372 : Int32) + ((4 : Int32) * a1))) 2) (tn j0))], sM Ln (dd_u I3 149 (upd (I3 149) (tn ((1372 : Int32) + ((4 : Int32) * a1))) 2)) L3 c s)) rfl hc h (by omega)) hc ?_
        refine dd_Rn.se (cf := (62, [.ref 148, .int a1, .int ((1372 : Int32) + ((4 : Int32) * a1))], [.int ((upd (I3 149) (tn ((1372 : Int32) + ((4 : Int32) * a1))) 2) (tn ((1372 : Int32) + ((4 : Int32) * a1))))], sM Ln (dd_u I3 149 (upd (I3 149) (tn ((1372 : Int32) + ((4 : Int32) * a1))) 2)) L3 c s)) ?_
        refine dd_Rn.ite 0 (c := (0 : Int32) ≤ (upd (I3 149) (tn ((1372 : Int32) + ((4 : Int32) * a1))) 2) (tn ((1372 : Int32) + ((4 : Int32) * a1)))) (A := (67, [.ref 148, .int a1, .int ((1372 : Int32) + ((4 : Int32) * a1))], [], sM Ln (dd_u I3 149 (upd (I3 149) (tn ((1372 : Int32) + ((4 : Int32) * a1))) 2)) L3 c s)) (B := (65, [.ref 148, .int a1, .int ((1372 : Int32) + ((4 : Int32) * a1))], [], sM Ln (dd_u I3 149 (upd (I3 149) (tn ((1372 : Int32) + ((4 : Int32) * a1))) 2)) L3 c s)) rfl (fun hc => ?_) (fun hc => ?_) (by omega)
        · have h := h.1 hc
          obtain ⟨hc, h⟩ := h
          refine dd_Rn.go 8 (cf' := (79, [.ref 148, .int a1, .int ((1372 : Int32) + ((4 : Int32) * a1))], [.int ((1372 : Int32) + ((4 : Int32) * a1)), .ref 149, .int (((1372 : Int32) + ((4 : Int32) * a1)) + 1), .ref 149], sM Ln (dd_u I3 149 (upd (I3 149) (tn ((1372 : Int32) + ((4 : Int32) * a1))) 2)) L3 c s)) rfl ?_ (by omega)
          refine dd_Rn.ci (fun j0 => (79, [.ref 148, .int a1, .int ((1372 : Int32) + ((4 : Int32) * a1))], [.int j0, .ref 149, .int (((1372 : Int32) + ((4 : Int32) * a1)) + 1), .ref 149], sM Ln (dd_u I3 149 (upd (I3 149) (tn ((1372 : Int32) + ((4 : Int32) * a1))) 2)) L3 c s)) (fun j0 => (80, [.ref 148, .int a1, .int ((1372 : Int32) + ((4 : Int32) * a1))], [.int ((upd (I3 149) (tn ((1372 : Int32) + ((4 : Int32) * a1))) 2) (tn j0)), .int (((1372 : Int32) + ((4 : Int32) * a1)) + 1), .ref 149], sM Ln (dd_u I3 149 (upd (I3 149) (tn ((1372 : Int32) + ((4 : Int32) * a1))) 2)) L3 c s)) (fun j0 => 0 ≤ j0 ∧ tn j0 < 2220) ((1372 : Int32) + ((4 : Int32) * a1)) (fun j0 hc h => dd_Rn.chk 0 (c := 0 ≤ j0 ∧ tn j0 < 2220) (A := (80, [.ref 148, .int a1, .int ((1372 : Int32) + ((4 : Int32) * a1))], [.int ((upd (I3 149) (tn ((1372 : Int32) + ((4 : Int32) * a1))) 2) (tn j0)), .int (((1372 : Int32) + ((4 : Int32) * a1)) + 1), .ref 149], sM Ln (dd_u I3 149 (upd (I3 149) (tn ((1372 : Int32) + ((4 : Int32) * a1))) 2)) L3 c s)) rfl hc h (by omega)) hc ?_
          refine dd_Rn.se (cf := (80, [.ref 148, .int a1, .int ((1372 : Int32) + ((4 : Int32) * a1))], [.int ((upd (I3 149) (tn ((1372 : Int32) + ((4 : Int32) * a1))) 2) (tn ((1372 : Int32) + ((4 : Int32) * a1)))), .int (((1372 : Int32) + ((4 : Int32) * a1)) + 1), .ref 149], sM Ln (dd_u I3 149 (upd (I3 149) (tn ((1372 : Int32) + ((4 : Int32) * a1))) 2)) L3 c s)) ?_
          refine dd_Rn.ite 1 (c := (upd (I3 149) (tn ((1372 : Int32) + ((4 : Int32) * a1))) 2) (tn ((1372 : Int32) + ((4 : Int32) * a1))) = 2) (A := (84, [.ref 148, .int a1, .int ((1372 : Int32) + ((4 : Int32) * a1))], [.int (((1372 : Int32) + ((4 : Int32) * a1)) + 1), .ref 149], sM Ln (dd_u I3 149 (upd (I3 149) (tn ((1372 : Int32) + ((4 : Int32) * a1))) 2)) L3 c s)) (B := (88, [.ref 148, .int a1, .int ((1372 : Int32) + ((4 : Int32) * a1))], [.int (((1372 : Int32) + ((4 : Int32) * a1)) + 1), .ref 149], sM Ln (dd_u I3 149 (upd (I3 149) (tn ((1372 : Int32) + ((4 : Int32) * a1))) 2)) L3 c s)) rfl (fun hc => ?_) (fun hc => ?_) (by omega)
          · have h := h.1 hc
            exact dd_Rn.go 2 (cf' := (95, [.ref 148, .int a1, .int ((1372 : Int32) + ((4 : Int32) * a1))], [.int 1, .int (((1372 : Int32) + ((4 : Int32) * a1)) + 1), .ref 149], sM Ln (dd_u I3 149 (upd (I3 149) (tn ((1372 : Int32) + ((4 : Int32) * a1))) 2)) L3 c s)) rfl h (by omega)
          · have h := h.2 hc
            refine dd_Rn.cI 3 (pc := 92) (ls := [.ref 148, .int a1, .int ((1372 : Int32) + ((4 : Int32) * a1))]) (st := [.int 20, .int 0, .ref 148, .int (((1372 : Int32) + ((4 : Int32) * a1)) + 1), .ref 149]) (x := m_X11_number) (as := [.ref 148, .int 0, .int 20]) (rest := [.int (((1372 : Int32) + ((4 : Int32) * a1)) + 1), .ref 149]) rfl rfl rfl rfl h ?_
            intro x5 I5 L5 h
            show dd_Rn (e + 16) m_X11_readLawLine (95, [.ref 148, .int a1, .int ((1372 : Int32) + ((4 : Int32) * a1))], [.int x5, .int (((1372 : Int32) + ((4 : Int32) * a1)) + 1), .ref 149], sM Ln I5 L5 c s) _
            exact dd_Rn.go 0 (cf' := (95, [.ref 148, .int a1, .int ((1372 : Int32) + ((4 : Int32) * a1))], [.int x5, .int (((1372 : Int32) + ((4 : Int32) * a1)) + 1), .ref 149], sM Ln I5 L5 c s)) rfl h (by omega)
        · have h := h.2 hc
          exact dd_Rn.retK 1 (pc := 66) (ls := [.ref 148, .int a1, .int ((1372 : Int32) + ((4 : Int32) * a1))]) (st := [.int 0]) (M := sM Ln (dd_u I3 149 (upd (I3 149) (tn ((1372 : Int32) + ((4 : Int32) * a1))) 2)) L3 c s) (o := (none, .int 0, sM Ln (dd_u I3 149 (upd (I3 149) (tn ((1372 : Int32) + ((4 : Int32) * a1))) 2)) L3 c s)) rfl rfl h (by omega)
    · have h := h.2 hc
      obtain ⟨hc, h⟩ := h
      refine dd_Rn.go 2 (cf' := (55, [.ref 148, .int a1, .int ((1372 : Int32) + ((4 : Int32) * a1))], [.int 1, .int ((1372 : Int32) + ((4 : Int32) * a1)), .ref 149], sM Ln I2 L2 c s)) rfl ?_ (by omega)
      refine dd_Rn.ci (fun j0 => (55, [.ref 148, .int a1, .int ((1372 : Int32) + ((4 : Int32) * a1))], [.int 1, .int j0, .ref 149], sM Ln I2 L2 c s)) (fun j0 => (56, [.ref 148, .int a1, .int ((1372 : Int32) + ((4 : Int32) * a1))], [], sM Ln (dd_u I2 149 (upd (I2 149) (tn j0) 1)) L2 c s)) (fun j0 => 0 ≤ j0 ∧ tn j0 < 2220) ((1372 : Int32) + ((4 : Int32) * a1)) (fun j0 hc h => dd_Rn.chk 0 (c := 0 ≤ j0 ∧ tn j0 < 2220) (A := (56, [.ref 148, .int a1, .int ((1372 : Int32) + ((4 : Int32) * a1))], [], sM Ln (dd_u I2 149 (upd (I2 149) (tn j0) 1)) L2 c s)) rfl hc h (by omega)) hc ?_
      refine dd_Rn.se (cf := (56, [.ref 148, .int a1, .int ((1372 : Int32) + ((4 : Int32) * a1))], [], sM Ln (dd_u I2 149 (upd (I2 149) (tn ((1372 : Int32) + ((4 : Int32) * a1))) 1)) L2 c s)) ?_
      obtain ⟨hc, h⟩ := h
      refine dd_Rn.go 3 (cf' := (61, [.ref 148, .int a1, .int ((1372 : Int32) + ((4 : Int32) * a1))], [.int ((1372 : Int32) + ((4 : Int32) * a1)), .ref 149], sM Ln (dd_u I2 149 (upd (I2 149) (tn ((1372 : Int32) + ((4 : Int32) * a1))) 1)) L2 c s)) rfl ?_ (by omega)
      refine dd_Rn.ci (fun j0 => (61, [.ref 148, .int a1, .int ((1372 : Int32) + ((4 : Int32) * a1))], [.int j0, .ref 149], sM Ln (dd_u I2 149 (upd (I2 149) (tn ((1372 : Int32) + ((4 : Int32) * a1))) 1)) L2 c s)) (fun j0 => (62, [.ref 148, .int a1, .int ((1372 : Int32) + ((4 : Int32) * a1))], [.int ((upd (I2 149) (tn ((1372 : Int32) + ((4 : Int32) * a1))) 1) (tn j0))], sM Ln (dd_u I2 149 (upd (I2 149) (tn ((1372 : Int32) + ((4 : Int32) * a1))) 1)) L2 c s)) (fun j0 => 0 ≤ j0 ∧ tn j0 < 2220) ((1372 : Int32) + ((4 : Int32) * a1)) (fun j0 hc h => dd_Rn.chk 0 (c := 0 ≤ j0 ∧ tn j0 < 2220) (A := (62, [.ref 148, .int a1, .int ((1372 : Int32) + ((4 : Int32) * a1))], [.int ((upd (I2 149) (tn ((1372 : Int32) + ((4 : Int32) * a1))) 1) (tn j0))], sM Ln (dd_u I2 149 (upd (I2 149) (tn ((1372 : Int32) + ((4 : Int32) * a1))) 1)) L2 c s)) rfl hc h (by omega)) hc ?_
      refine dd_Rn.se (cf := (62, [.ref 148, .int a1, .int ((1372 : Int32) + ((4 : Int32) * a1))], [.int ((upd (I2 149) (tn ((1372 : Int32) + ((4 : Int32) * a1))) 1) (tn ((1372 : Int32) + ((4 : Int32) * a1))))], sM Ln (dd_u I2 149 (upd (I2 149) (tn ((1372 : Int32) + ((4 : Int32) * a1))) 1)) L2 c s)) ?_
      refine dd_Rn.ite 0 (c := (0 : Int32) ≤ (upd (I2 149) (tn ((1372 : Int32) + ((4 : Int32) * a1))) 1) (tn ((1372 : Int32) + ((4 : Int32) * a1)))) (A := (67, [.ref 148, .int a1, .int ((1372 : Int32) + ((4 : Int32) * a1))], [], sM Ln (dd_u I2 149 (upd (I2 149) (tn ((1372 : Int32) + ((4 : Int32) * a1))) 1)) L2 c s)) (B := (65, [.ref 148, .int a1, .int ((1372 : Int32) + ((4 : Int32) * a1))], [], sM Ln (dd_u I2 149 (upd (I2 149) (tn ((1372 : Int32) + ((4 : Int32) * a1))) 1)) L2 c s)) rfl (fun hc => ?_) (fun hc => ?_) (by omega)
      · have h := h.1 hc
        obtain ⟨hc, h⟩ := h
        refine dd_Rn.go 8 (cf' := (79, [.ref 148, .int a1, .int ((1372 : Int32) + ((4 : Int32) * a1))], [.int ((1372 : Int32) + ((4 : Int32) * a1)), .ref 149, .int (((1372 : Int32) + ((4 : Int32) * a1)) + 1), .ref 149], sM Ln (dd_u I2 149 (upd (I2 149) (tn ((1372 : Int32) + ((4 : Int32) * a1))) 1)) L2 c s)) rfl ?_ (by omega)
        refine dd_Rn.ci (fun j0 => (79, [.ref 148, .int a1, .int ((1372 : Int32) + ((4 : Int32) * a1))], [.int j0, .ref 149, .int (((1372 : Int32) + ((4 : Int32) * a1)) + 1), .ref 149], sM Ln (dd_u I2 149 (upd (I2 149) (tn ((1372 : Int32) + ((4 : Int32) * a1))) 1)) L2 c s)) (fun j0 => (80, [.ref 148, .int a1, .int ((1372 : Int32) + ((4 : Int32) * a1))], [.int ((upd (I2 149) (tn ((1372 : Int32) + ((4 : Int32) * a1))) 1) (tn j0)), .int (((1372 : Int32) + ((4 : Int32) * a1)) + 1), .ref 149], sM Ln (dd_u I2 149 (upd (I2 149) (tn ((1372 : Int32) + ((4 : Int32) * a1))) 1)) L2 c s)) (fun j0 => 0 ≤ j0 ∧ tn j0 < 2220) ((1372 : Int32) + ((4 : Int32) * a1)) (fun j0 hc h => dd_Rn.chk 0 (c := 0 ≤ j0 ∧ tn j0 < 2220) (A := (80, [.ref 148, .int a1, .int ((1372 : Int32) + ((4 : Int32) * a1))], [.int ((upd (I2 149) (tn ((1372 : Int32) + ((4 : Int32) * a1))) 1) (tn j0)), .int (((1372 : Int32) + ((4 : Int32) * a1)) + 1), .ref 149], sM Ln (dd_u I2 149 (upd (I2 149) (tn ((1372 : Int32) + ((4 : Int32) * a1))) 1)) L2 c s)) rfl hc h (by omega)) hc ?_
        refine dd_Rn.se (cf := (80, [.ref 148, .int a1, .int ((1372 : Int32) + ((4 : Int32) * a1))], [.int ((upd (I2 149) (tn ((1372 : Int32) + ((4 : Int32) * a1))) 1) (tn ((1372 : Int32) + ((4 : Int32) * a1)))), .int (((1372 : Int32) + ((4 : Int32) * a1)) + 1), .ref 149], sM Ln (dd_u I2 149 (upd (I2 149) (tn ((1372 : Int32) + ((4 : Int32) * a1))) 1)) L2 c s)) ?_
        refine dd_Rn.ite 1 (c := (upd (I2 149) (tn ((1372 : Int32) + ((4 : Int32) * a1))) 1) (tn ((1372 : Int32) + ((4 : Int32) * a1))) = 2) (A := (84, [.ref 148, .int a1, .int ((1372 : Int32) + ((4 : Int32) * a1))], [.int (((1372 : Int32) + ((4 : Int32) * a1)) + 1), .ref 149], sM Ln (dd_u I2 149 (upd (I2 149) (tn ((1372 : Int32) + ((4 : Int32) * a1))) 1)) L2 c s)) (B := (88, [.ref 148, .int a1, .int ((1372 : Int32) + ((4 : Int32) * a1))], [.int (((1372 : Int32) + ((4 : Int32) * a1)) + 1), .ref 149], sM Ln (dd_u I2 149 (upd (I2 149) (tn ((1372 : Int32) + ((4 : Int32) * a1))) 1)) L2 c s)) rfl (fun hc => ?_) (fun hc => ?_) (by omega)
        · have h := h.1 hc
          exact dd_Rn.go 2 (cf' := (95, [.ref 148, .int a1, .int ((1372 : Int32) + ((4 : Int32) * a1))], [.int 1, .int (((1372 : Int32) + ((4 : Int32) * a1)) + 1), .ref 149], sM Ln (dd_u I2 149 (upd (I2 149) (tn ((1372 : Int32) + ((4 : Int32) * a1))) 1)) L2 c s)) rfl h (by omega)
        · have h := h.2 hc
          refine dd_Rn.cI 3 (pc := 92) (ls := [.ref 148, .int a1, .int ((1372 : Int32) + ((4 : Int32) * a1))]) (st := [.int 20, .int 0, .ref 148, .int (((1372 : Int32) + ((4 : Int32) * a1)) + 1), .ref 149]) (x := m_X11_number) (as := [.ref 148, .int 0, .int 20]) (rest := [.int (((1372 : Int32) + ((4 : Int32) * a1)) + 1), .ref 149]) rfl rfl rfl rfl h ?_
          intro x6 I6 L6 h
          show dd_Rn (e + 16) m_X11_readLawLine (95, [.ref 148, .int a1, .int ((1372 : Int32) + ((4 : Int32) * a1))], [.int x6, .int (((1372 : Int32) + ((4 : Int32) * a1)) + 1), .ref 149], sM Ln I6 L6 c s) _
          exact dd_Rn.go 0 (cf' := (95, [.ref 148, .int a1, .int ((1372 : Int32) + ((4 : Int32) * a1))], [.int x6, .int (((1372 : Int32) + ((4 : Int32) * a1)) + 1), .ref 149], sM Ln I6 L6 c s)) rfl h (by omega)
      · have h := h.2 hc
        exact dd_Rn.retK 1 (pc := 66) (ls := [.ref 148, .int a1, .int ((1372 : Int32) + ((4 : Int32) * a1))]) (st := [.int 0]) (M := sM Ln (dd_u I2 149 (upd (I2 149) (tn ((1372 : Int32) + ((4 : Int32) * a1))) 1)) L2 c s) (o := (none, .int 0, sM Ln (dd_u I2 149 (upd (I2 149) (tn ((1372 : Int32) + ((4 : Int32) * a1))) 1)) L2 c s)) rfl rfl h (by omega)
  · have h := h.2 hc
    obtain ⟨hc, h⟩ := h
    refine dd_Rn.go 2 (cf' := (55, [.ref 148, .int a1, .int ((1372 : Int32) + ((4 : Int32) * a1))], [.int 0, .int ((1372 : Int32) + ((4 : Int32) * a1)), .ref 149], sM Ln I1 L1 c s)) rfl ?_ (by omega)
    refine dd_Rn.ci (fun j0 => (55, [.ref 148, .int a1, .int ((1372 : Int32) + ((4 : Int32) * a1))], [.int 0, .int j0, .ref 149], sM Ln I1 L1 c s)) (fun j0 => (56, [.ref 148, .int a1, .int ((1372 : Int32) + ((4 : Int32) * a1))], [], sM Ln (dd_u I1 149 (upd (I1 149) (tn j0) 0)) L1 c s)) (fun j0 => 0 ≤ j0 ∧ tn j0 < 2220) ((1372 : Int32) + ((4 : Int32) * a1)) (fun j0 hc h => dd_Rn.chk 0 (c := 0 ≤ j0 ∧ tn j0 < 2220) (A := (56, [.ref 148, .int a1, .int ((1372 : Int32) + ((4 : Int32) * a1))], [], sM Ln (dd_u I1 149 (upd (I1 149) (tn j0) 0)) L1 c s)) rfl hc h (by omega)) hc ?_
    refine dd_Rn.se (cf := (56, [.ref 148, .int a1, .int ((1372 : Int32) + ((4 : Int32) * a1))], [], sM Ln (dd_u I1 149 (upd (I1 149) (tn ((1372 : Int32) + ((4 : Int32) * a1))) 0)) L1 c s)) ?_
    obtain ⟨hc, h⟩ := h
    refine dd_Rn.go 3 (cf' := (61, [.ref 148, .int a1, .int ((1372 : Int32) + ((4 : Int32) * a1))], [.int ((1372 : Int32) + ((4 : Int32) * a1)), .ref 149], sM Ln (dd_u I1 149 (upd (I1 149) (tn ((1372 : Int32) + ((4 : Int32) * a1))) 0)) L1 c s)) rfl ?_ (by omega)
    refine dd_Rn.ci (fun j0 => (61, [.ref 148, .int a1, .int ((1372 : Int32) + ((4 : Int32) * a1))], [.int j0, .ref 149], sM Ln (dd_u I1 149 (upd (I1 149) (tn ((1372 : Int32) + ((4 : Int32) * a1))) 0)) L1 c s)) (fun j0 => (62, [.ref 148, .int a1, .int ((1372 : Int32) + ((4 : Int32) * a1))], [.int ((upd (I1 149) (tn ((1372 : Int32) + ((4 : Int32) * a1))) 0) (tn j0))], sM Ln (dd_u I1 149 (upd (I1 149) (tn ((1372 : Int32) + ((4 : Int32) * a1))) 0)) L1 c s)) (fun j0 => 0 ≤ j0 ∧ tn j0 < 2220) ((1372 : Int32) + ((4 : Int32) * a1)) (fun j0 hc h => dd_Rn.chk 0 (c := 0 ≤ j0 ∧ tn j0 < 2220) (A := (62, [.ref 148, .int a1, .int ((1372 : Int32) + ((4 : Int32) * a1))], [.int ((upd (I1 149) (tn ((1372 : Int32) + ((4 : Int32) * a1))) 0) (tn j0))], sM Ln (dd_u I1 149 (upd (I1 149) (tn ((1372 : Int32) + ((4 : Int32) * a1))) 0)) L1 c s)) rfl hc h (by omega)) hc ?_
    refine dd_Rn.se (cf := (62, [.ref 148, .int a1, .int ((1372 : Int32) + ((4 : Int32) * a1))], [.int ((upd (I1 149) (tn ((1372 : Int32) + ((4 : Int32) * a1))) 0) (tn ((1372 : Int32) + ((4 : Int32) * a1))))], sM Ln (dd_u I1 149 (upd (I1 149) (tn ((1372 : Int32) + ((4 : Int32) * a1))) 0)) L1 c s)) ?_
    refine dd_Rn.ite 0 (c := (0 : Int32) ≤ (upd (I1 149) (tn ((1372 : Int32) + ((4 : Int32) * a1))) 0) (tn ((1372 : Int32) + ((4 : Int32) * a1)))) (A := (67, [.ref 148, .int a1, .int ((1372 : Int32) + ((4 : Int32) * a1))], [], sM Ln (dd_u I1 149 (upd (I1 149) (tn ((1372 : Int32) + ((4 : Int32) * a1))) 0)) L1 c s)) (B := (65, [.ref 148, .int a1, .int ((1372 : Int32) + ((4 : Int32) * a1))], [], sM Ln (dd_u I1 149 (upd (I1 149) (tn ((1372 : Int32) + ((4 : Int32) * a1))) 0)) L1 c s)) rfl (fun hc => ?_) (fun hc => ?_) (by omega)
    · have h := h.1 hc
      obtain ⟨hc, h⟩ := h
      refine dd_Rn.go 8 (cf' := (79, [.ref 148, .int a1, .int ((1372 : Int32) + ((4 : Int32) * a1))], [.int ((1372 : Int32) + ((4 : Int32) * a1)), .ref 149, .int (((1372 : Int32) + ((4 : Int32) * a1)) + 1), .ref 149], sM Ln (dd_u I1 149 (upd (I1 149) (tn ((1372 : Int32) + ((4 : Int32) * a1))) 0)) L1 c s)) rfl ?_ (by omega)
      refine dd_Rn.ci (fun j0 => (79, [.ref 148, .int a1, .int ((1372 : Int32) + ((4 : Int32) * a1))], [.int j0, .ref 149, .int (((1372 : Int32) + ((4 : Int32) * a1)) + 1), .ref 149], sM Ln (dd_u I1 149 (upd (I1 149) (tn ((1372 : Int32) + ((4 : Int32) * a1))) 0)) L1 c s)) (fun j0 => (80, [.ref 148, .int a1, .int ((1372 : Int32) + ((4 : Int32) * a1))], [.int ((upd (I1 149) (tn ((1372 : Int32) + ((4 : Int32) * a1))) 0) (tn j0)), .int (((1372 : Int32) + ((4 : Int32) * a1)) + 1), .ref 149], sM Ln (dd_u I1 149 (upd (I1 149) (tn ((1372 : Int32) + ((4 : Int32) * a1))) 0)) L1 c s)) (fun j0 => 0 ≤ j0 ∧ tn j0 < 2220) ((1372 : Int32) + ((4 : Int32) * a1)) (fun j0 hc h => dd_Rn.chk 0 (c := 0 ≤ j0 ∧ tn j0 < 2220) (A := (80, [.ref 148, .int a1, .int ((1372 : Int32) + ((4 : Int32) * a1))], [.int ((upd (I1 149) (tn ((1372 : Int32) + ((4 : Int32) * a1))) 0) (tn j0)), .int (((1372 : Int32) + ((4 : Int32) * a1)) + 1), .ref 149], sM Ln (dd_u I1 149 (upd (I1 149) (tn ((1372 : Int32) + ((4 : Int32) * a1))) 0)) L1 c s)) rfl hc h (by omega)) hc ?_
      refine dd_Rn.se (cf := (80, [.ref 148, .int a1, .int ((1372 : Int32) + ((4 : Int32) * a1))], [.int ((upd (I1 149) (tn ((1372 : Int32) + ((4 : Int32) * a1))) 0) (tn ((1372 : Int32) + ((4 : Int32) * a1)))), .int (((1372 : Int32) + ((4 : Int32) * a1)) + 1), .ref 149], sM Ln (dd_u I1 149 (upd (I1 149) (tn ((1372 : Int32) + ((4 : Int32) * a1))) 0)) L1 c s)) ?_
      refine dd_Rn.ite 1 (c := (upd (I1 149) (tn ((1372 : Int32) + ((4 : Int32) * a1))) 0) (tn ((1372 : Int32) + ((4 : Int32) * a1))) = 2) (A := (84, [.ref 148, .int a1, .int ((1372 : Int32) + ((4 : Int32) * a1))], [.int (((1372 : Int32) + ((4 : Int32) * a1)) + 1), .ref 149], sM Ln (dd_u I1 149 (upd (I1 149) (tn ((1372 : Int32) + ((4 : Int32) * a1))) 0)) L1 c s)) (B := (88, [.ref 148, .int a1, .int ((1372 : Int32) + ((4 : Int32) * a1))], [.int (((1372 : Int32) + ((4 : Int32) * a1)) + 1), .ref 149], sM Ln (dd_u I1 149 (upd (I1 149) (tn ((1372 : Int32) + ((4 : Int32) * a1))) 0)) L1 c s)) rfl (fun hc => ?_) (fun hc => ?_) (by omega)
      · have h := h.1 hc
        exact dd_Rn.go 2 (cf' := (95, [.ref 148, .int a1, .int ((1372 : Int32) + ((4 : Int32) * a1))], [.int 1, .int (((1372 : Int32) + ((4 : Int32) * a1)) + 1), .ref 149], sM Ln (dd_u I1 149 (upd (I1 149) (tn ((1372 : Int32) + ((4 : Int32) * a1))) 0)) L1 c s)) rfl h (by omega)
      · have h := h.2 hc
        refine dd_Rn.cI 3 (pc := 92) (ls := [.ref 148, .int a1, .int ((1372 : Int32) + ((4 : Int32) * a1))]) (st := [.int 20, .int 0, .ref 148, .int (((1372 : Int32) + ((4 : Int32) * a1)) + 1), .ref 149]) (x := m_X11_number) (as := [.ref 148, .int 0, .int 20]) (rest := [.int (((1372 : Int32) + ((4 : Int32) * a1)) + 1), .ref 149]) rfl rfl rfl rfl h ?_
        intro x7 I7 L7 h
        show dd_Rn (e + 16) m_X11_readLawLine (95, [.ref 148, .int a1, .int ((1372 : Int32) + ((4 : Int32) * a1))], [.int x7, .int (((1372 : Int32) + ((4 : Int32) * a1)) + 1), .ref 149], sM Ln I7 L7 c s) _
        exact dd_Rn.go 0 (cf' := (95, [.ref 148, .int a1, .int ((1372 : Int32) + ((4 : Int32) * a1))], [.int x7, .int (((1372 : Int32) + ((4 : Int32) * a1)) + 1), .ref 149], sM Ln I7 L7 c s)) rfl h (by omega)
    · have h := h.2 hc
      exact dd_Rn.retK 1 (pc := 66) (ls := [.ref 148, .int a1, .int ((1372 : Int32) + ((4 : Int32) * a1))]) (st := [.int 0]) (M := sM Ln (dd_u I1 149 (upd (I1 149) (tn ((1372 : Int32) + ((4 : Int32) * a1))) 0)) L1 c s) (o := (none, .int 0, sM Ln (dd_u I1 149 (upd (I1 149) (tn ((1372 : Int32) + ((4 : Int32) * a1))) 0)) L1 c s)) rfl rfl h (by omega)

theorem w_X11_readLawLine_95 {Ln d c s : Nat} {I : Nat → Nat → Int32} {L : Nat → Nat → Int64} {Q : dd_O → Prop} {a1 a2 b1 b2 : Int32} (hd : 28 ≤ d) (h : ((0 ≤ b1 ∧ tn b1 < 2220) ∧ ((0 ≤ a2 + 1 ∧ tn (a2 + 1) < 2220) ∧ (((0 : Int32) ≤ (upd (I 149) (tn b1) b2) (tn (a2 + 1)) → ((0 ≤ a2 + 2 ∧ tn (a2 + 2) < 2220) ∧ dd_Ev (d - 1) m_X11_passes [.ref 148, .ref 1000061] (sM Ln (dd_u (dd_u (dd_u I 149 (upd (I 149) (tn b1) b2)) 149 (upd (upd (I 149) (tn b1) b2) (tn (a2 + 2)) (I 148 16))) 148 (upd (I 148) 13 0)) L c s) (dd_RI Ln c s (fun x1 I1 L1 => ((x1 = 0 → dd_Rn d m_X11_readLawLine (145, [.ref 148, .int a1, .int a2], [], sM Ln I1 L1 c s) Q) ∧ (¬ (x1 = 0) → dd_Ev (d - 1) m_X11_readCond [.ref 148] (sM Ln I1 L1 c s) (dd_RI Ln c s (fun x2 I2 L2 => ((x2 = 0 → Q (none, .int 0, sM Ln I2 L2 c s)) ∧ (¬ (x2 = 0) → dd_Rn d m_X11_readLawLine (145, [.ref 148, .int a1, .int a2], [], sM Ln I2 L2 c s) Q)))))))))) ∧ (¬ ((0 : Int32) ≤ (upd (I 149) (tn b1) b2) (tn (a2 + 1))) → Q (none, .int 0, sM Ln (dd_u I 149 (upd (I 149) (tn b1) b2)) L c s)))))) : dd_Rn d m_X11_readLawLine (95, [.ref 148, .int a1, .int a2], [.int b2, .int b1, .ref 149], sM Ln I L c s) Q := by
  obtain ⟨e, rfl⟩ : ∃ e, d = e + 16 := ⟨d - 16, by omega⟩
  obtain ⟨hc, h⟩ := h
  refine dd_Rn.chk 0 (c := 0 ≤ b1 ∧ tn b1 < 2220) (A := (96, [.ref 148, .int a1, .int a2], [], sM Ln (dd_u I 149 (upd (I 149) (tn b1) b2)) L c s)) rfl hc ?_ (by omega)
  obtain ⟨hc, h⟩ := h
  refine dd_Rn.go 5 (cf' := (103, [.ref 148, .int a1, .int a2], [.int (a2 + 1), .ref 149], sM Ln (dd_u I 149 (upd (I 149) (tn b1) b2)) L c s)) rfl ?_ (by omega)
  refine dd_Rn.ci (fun j0 => (103, [.ref 148, .int a1, .int a2], [.int j0, .ref 149], sM Ln (dd_u I 149 (upd (I 149) (tn b1) b2)) L c s)) (fun j0 => (104, [.ref 148, .int a1, .int a2], [.int ((upd (I 149) (tn b1) b2) (tn j0))], sM Ln (dd_u I 149 (upd (I 149) (tn b1) b2)) L c s)) (fun j0 => 0 ≤ j0 ∧ tn j0 < 2220) (a2 + 1) (fun j0 hc h => dd_Rn.chk 0 (c := 0 ≤ j0 ∧ tn j0 < 2220) (A := (104, [.ref 148, .int a1, .int a2], [.int ((upd (I 149) (tn b1) b2) (tn j0))], sM Ln (dd_u I 149 (upd (I 149) (tn b1) b2)) L c s)) rfl hc h (by omega)) hc ?_
  refine dd_Rn.se (cf := (104, [.ref 148, .int a1, .int a2], [.int ((upd (I 149) (tn b1) b2) (tn (a2 + 1)))], sM Ln (dd_u I 149 (upd (I 149) (tn b1) b2)) L c s)) ?_
  refine dd_Rn.ite 0 (c := (0 : Int32) ≤ (upd (I 149) (tn b1) b2) (tn (a2 + 1))) (A := (109, [.ref 148, .int a1, .int a2], [], sM Ln (dd_u I 149 (upd (I 149) (tn b1) b2)) L c s)) (B := (107, [.ref 148, .int a1, .int a2], [], sM Ln (dd_u I 149 (upd (I 149) (tn b1) b2)) L c s)) rfl (fun hc => ?_) (fun hc => ?_) (by omega)
  · have h := h.1 hc
    obtain ⟨hc, h⟩ := h
    refine dd_Rn.go 7 (cf' := (120, [.ref 148, .int a1, .int a2], [.int (I 148 16), .int (a2 + 2), .ref 149], sM Ln (dd_u I 149 (upd (I 149) (tn b1) b2)) L c s)) rfl ?_ (by omega)
    refine dd_Rn.ci (fun j0 => (120, [.ref 148, .int a1, .int a2], [.int (I 148 16), .int j0, .ref 149], sM Ln (dd_u I 149 (upd (I 149) (tn b1) b2)) L c s)) (fun j0 => (121, [.ref 148, .int a1, .int a2], [], sM Ln (dd_u (dd_u I 149 (upd (I 149) (tn b1) b2)) 149 (upd (upd (I 149) (tn b1) b2) (tn j0) (I 148 16))) L c s)) (fun j0 => 0 ≤ j0 ∧ tn j0 < 2220) (a2 + 2) (fun j0 hc h => dd_Rn.chk 0 (c := 0 ≤ j0 ∧ tn j0 < 2220) (A := (121, [.ref 148, .int a1, .int a2], [], sM Ln (dd_u (dd_u I 149 (upd (I 149) (tn b1) b2)) 149 (upd (upd (I 149) (tn b1) b2) (tn j0) (I 148 16))) L c s)) rfl hc h (by omega)) hc ?_
    refine dd_Rn.se (cf := (121, [.ref 148, .int a1, .int a2], [], sM Ln (dd_u (dd_u I 149 (upd (I 149) (tn b1) b2)) 149 (upd (upd (I 149) (tn b1) b2) (tn (a2 + 2)) (I 148 16))) L c s)) ?_
    refine dd_Rn.cI 5 (pc := 130) (ls := [.ref 148, .int a1, .int a2]) (st := [.ref 1000061, .ref 148]) (x := m_X11_passes) (as := [.ref 148, .ref 1000061]) (rest := []) rfl rfl rfl rfl h ?_
    intro x1 I1 L1 h
    show dd_Rn (e + 16) m_X11_readLawLine (133, [.ref 148, .int a1, .int a2], [.int x1], sM Ln I1 L1 c s) _
    refine dd_Rn.ite 0 (c := x1 = 0) (A := (145, [.ref 148, .int a1, .int a2], [], sM Ln I1 L1 c s)) (B := (136, [.ref 148, .int a1, .int a2], [], sM Ln I1 L1 c s)) rfl (fun hc => ?_) (fun hc => ?_) (by omega)
    · have h := h.1 hc
      exact dd_Rn.go 0 (cf' := (145, [.ref 148, .int a1, .int a2], [], sM Ln I1 L1 c s)) rfl h (by omega)
    · have h := h.2 hc
      refine dd_Rn.cI 1 (pc := 137) (ls := [.ref 148, .int a1, .int a2]) (st := [.ref 148]) (x := m_X11_readCond) (as := [.ref 148]) (rest := []) rfl rfl rfl rfl h ?_
      intro x2 I2 L2 h
      show dd_Rn (e + 16) m_X11_readLawLine (140, [.ref 148, .int a1, .int a2], [.int x2], sM Ln I2 L2 c s) _
      refine dd_Rn.ite 0 (c := x2 = 0) (A := (143, [.ref 148, .int a1, .int a2], [], sM Ln I2 L2 c s)) (B := (145, [.ref 148, .int a1, .int a2], [], sM Ln I2 L2 c s)) rfl (fun hc => ?_) (fun hc => ?_) (by omega)
      · have h := h.1 hc
        exact dd_Rn.retK 1 (pc := 144) (ls := [.ref 148, .int a1, .int a2]) (st := [.int 0]) (M := sM Ln I2 L2 c s) (o := (none, .int 0, sM Ln I2 L2 c s)) rfl rfl h (by omega)
      · have h := h.2 hc
        exact dd_Rn.go 0 (cf' := (145, [.ref 148, .int a1, .int a2], [], sM Ln I2 L2 c s)) rfl h (by omega)
  · have h := h.2 hc
    exact dd_Rn.retK 1 (pc := 108) (ls := [.ref 148, .int a1, .int a2]) (st := [.int 0]) (M := sM Ln (dd_u I 149 (upd (I 149) (tn b1) b2)) L c s) (o := (none, .int 0, sM Ln (dd_u I 149 (upd (I 149) (tn b1) b2)) L c s)) rfl rfl h (by omega)

theorem w_X11_readLawLine_145 {Ln d c s : Nat} {I : Nat → Nat → Int32} {L : Nat → Nat → Int64} {Q : dd_O → Prop} {a1 a2 : Int32} (hd : 28 ≤ d) (h : ((0 ≤ a2 + 3 ∧ tn (a2 + 3) < 2220) ∧ Q (none, .int 1, sM Ln (dd_u I 149 (upd (I 149) (tn (a2 + 3)) (I 148 16))) L c s))) : dd_Rn d m_X11_readLawLine (145, [.ref 148, .int a1, .int a2], [], sM Ln I L c s) Q := by
  obtain ⟨e, rfl⟩ : ∃ e, d = e + 16 := ⟨d - 16, by omega⟩
  obtain ⟨hc, h⟩ := h
  refine dd_Rn.go 7 (cf' := (156, [.ref 148, .int a1, .int a2], [.int (I 148 16), .int (a2 + 3), .ref 149], sM Ln I L c s)) rfl ?_ (by omega)
  refine dd_Rn.ci (fun j0 => (156, [.ref 148, .int a1, .int a2], [.int (I 148 16), .int j0, .ref 149], sM Ln I L c s)) (fun j0 => (157, [.ref 148, .int a1, .int a2], [], sM Ln (dd_u I 149 (upd (I 149) (tn j0) (I 148 16))) L c s)) (fun j0 => 0 ≤ j0 ∧ tn j0 < 2220) (a2 + 3) (fun j0 hc h => dd_Rn.chk 0 (c := 0 ≤ j0 ∧ tn j0 < 2220) (A := (157, [.ref 148, .int a1, .int a2], [], sM Ln (dd_u I 149 (upd (I 149) (tn j0) (I 148 16))) L c s)) rfl hc h (by omega)) hc ?_
  refine dd_Rn.se (cf := (157, [.ref 148, .int a1, .int a2], [], sM Ln (dd_u I 149 (upd (I 149) (tn (a2 + 3)) (I 148 16))) L c s)) ?_
  exact dd_Rn.retK 1 (pc := 158) (ls := [.ref 148, .int a1, .int a2]) (st := [.int 1]) (M := sM Ln (dd_u I 149 (upd (I 149) (tn (a2 + 3)) (I 148 16))) L c s) (o := (none, .int 1, sM Ln (dd_u I 149 (upd (I 149) (tn (a2 + 3)) (I 148 16))) L c s)) rfl rfl h (by omega)

theorem w_X11_readLine_0 {Ln d c s : Nat} {I : Nat → Nat → Int32} {L : Nat → Nat → Int64} {Q : dd_O → Prop} {a1 a2 : Int32} (hd : 28 ≤ d) (h : dd_Ev (d - 1) m_X11_letters [.ref 148] (sM Ln I L c s) (dd_RV Ln c s (fun I1 L1 => ((a1 = 0 → (((12 : Int32) ≤ a2 → Q (none, .int 0, sM Ln I1 L1 c s)) ∧ (¬ ((12 : Int32) ≤ a2) → ((a1 = 0 → dd_Ev (d - 1) m_X11_readLawLine [.ref 148, .int a2] (sM Ln I1 L1 c s) (dd_RI Ln c s (fun x2 I2 L2 => ((x2 = 0 → Q (none, .int 0, sM Ln I2 L2 c s)) ∧ (¬ (x2 = 0) → Q (none, .int 1, sM Ln I2 L2 c s)))))) ∧ (¬ (a1 = 0) → dd_Ev (d - 1) m_X11_readWoodLine [.ref 148] (sM Ln I1 L1 c s) (dd_RI Ln c s (fun x3 I3 L3 => ((x3 = 0 → Q (none, .int 0, sM Ln I3 L3 c s)) ∧ (¬ (x3 = 0) → Q (none, .int 1, sM Ln I3 L3 c s)))))))))) ∧ (¬ (a1 = 0) → (((14 : Int32) ≤ a2 → Q (none, .int 0, sM Ln I1 L1 c s)) ∧ (¬ ((14 : Int32) ≤ a2) → ((a1 = 0 → dd_Ev (d - 1) m_X11_readLawLine [.ref 148, .int a2] (sM Ln I1 L1 c s) (dd_RI Ln c s (fun x4 I4 L4 => ((x4 = 0 → Q (none, .int 0, sM Ln I4 L4 c s)) ∧ (¬ (x4 = 0) → Q (none, .int 1, sM Ln I4 L4 c s)))))) ∧ (¬ (a1 = 0) → dd_Ev (d - 1) m_X11_readWoodLine [.ref 148] (sM Ln I1 L1 c s) (dd_RI Ln c s (fun x5 I5 L5 => ((x5 = 0 → Q (none, .int 0, sM Ln I5 L5 c s)) ∧ (¬ (x5 = 0) → Q (none, .int 1, sM Ln I5 L5 c s)))))))))))))) : dd_Ev d m_X11_readLine [.ref 148, .int a1, .int a2] (sM Ln I L c s) Q := by
  obtain ⟨e, rfl⟩ : ∃ e, d = e + 16 := ⟨d - 16, by omega⟩
  show dd_Rn (e + 16) m_X11_readLine (0, [.ref 148, .int a1, .int a2], [], sM Ln I L c s) Q
  refine dd_Rn.cV 1 (pc := 1) (ls := [.ref 148, .int a1, .int a2]) (st := [.ref 148]) (x := m_X11_letters) (as := [.ref 148]) (rest := []) rfl rfl rfl rfl h ?_
  intro I1 L1 h
  show dd_Rn (e + 16) m_X11_readLine (4, [.ref 148, .int a1, .int a2], [], sM Ln I1 L1 c s) _
  refine dd_Rn.ite 2 (c := a1 = 0) (A := (14, [.ref 148, .int a1, .int a2], [.int a2], sM Ln I1 L1 c s)) (B := (9, [.ref 148, .int a1, .int a2], [.int a2], sM Ln I1 L1 c s)) rfl (fun hc => ?_) (fun hc => ?_) (by omega)
  · have h := h.1 hc
    refine dd_Rn.ite 1 (c := (12 : Int32) ≤ a2) (A := (45, [.ref 148, .int a1, .int a2], [], sM Ln I1 L1 c s)) (B := (19, [.ref 148, .int a1, .int a2], [], sM Ln I1 L1 c s)) rfl (fun hc => ?_) (fun hc => ?_) (by omega)
    · have h := h.1 hc
      exact dd_Rn.retK 1 (pc := 46) (ls := [.ref 148, .int a1, .int a2]) (st := [.int 0]) (M := sM Ln I1 L1 c s) (o := (none, .int 0, sM Ln I1 L1 c s)) rfl rfl h (by omega)
    · have h := h.2 hc
      refine dd_Rn.ite 1 (c := a1 = 0) (A := (33, [.ref 148, .int a1, .int a2], [], sM Ln I1 L1 c s)) (B := (23, [.ref 148, .int a1, .int a2], [], sM Ln I1 L1 c s)) rfl (fun hc => ?_) (fun hc => ?_) (by omega)
      · have h := h.1 hc
        refine dd_Rn.cI 2 (pc := 35) (ls := [.ref 148, .int a1, .int a2]) (st := [.int a2, .ref 148]) (x := m_X11_readLawLine) (as := [.ref 148, .int a2]) (rest := []) rfl rfl rfl rfl h ?_
        intro x2 I2 L2 h
        show dd_Rn (e + 16) m_X11_readLine (38, [.ref 148, .int a1, .int a2], [.int x2], sM Ln I2 L2 c s) _
        refine dd_Rn.ite 0 (c := x2 = 0) (A := (45, [.ref 148, .int a1, .int a2], [], sM Ln I2 L2 c s)) (B := (41, [.ref 148, .int a1, .int a2], [], sM Ln I2 L2 c s)) rfl (fun hc => ?_) (fun hc => ?_) (by omega)
        · have h := h.1 hc
          exact dd_Rn.retK 1 (pc := 46) (ls := [.ref 148, .int a1, .int a2]) (st := [.int 0]) (M := sM Ln I2 L2 c s) (o := (none, .int 0, sM Ln I2 L2 c s)) rfl rfl h (by omega)
        · have h := h.2 hc
          exact dd_Rn.retK 2 (pc := 46) (ls := [.ref 148, .int a1, .int a2]) (st := [.int 1]) (M := sM Ln I2 L2 c s) (o := (none, .int 1, sM Ln I2 L2 c s)) rfl rfl h (by omega)
      · have h := h.2 hc
        refine dd_Rn.cI 1 (pc := 24) (ls := [.ref 148, .int a1, .int a2]) (st := [.ref 148]) (x := m_X11_readWoodLine) (as := [.ref 148]) (rest := []) rfl rfl rfl rfl h ?_
        intro x3 I3 L3 h
        show dd_Rn (e + 16) m_X11_readLine (27, [.ref 148, .int a1, .int a2], [.int x3], sM Ln I3 L3 c s) _
        refine dd_Rn.ite 0 (c := x3 = 0) (A := (45, [.ref 148, .int a1, .int a2], [], sM Ln I3 L3 c s)) (B := (30, [.ref 148, .int a1, .int a2], [], sM Ln I3 L3 c s)) rfl (fun hc => ?_) (fun hc => ?_) (by omega)
        · have h := h.1 hc
          exact dd_Rn.retK 1 (pc := 46) (ls := [.ref 148, .int a1, .int a2]) (st := [.int 0]) (M := sM Ln I3 L3 c s) (o := (none, .int 0, sM Ln I3 L3 c s)) rfl rfl h (by omega)
        · have h := h.2 hc
          exact dd_Rn.retK 3 (pc := 46) (ls := [.ref 148, .int a1, .int a2]) (st := [.int 1]) (M := sM Ln I3 L3 c s) (o := (none, .int 1, sM Ln I3 L3 c s)) rfl rfl h (by omega)
  · have h := h.2 hc
    refine dd_Rn.ite 2 (c := (14 : Int32) ≤ a2) (A := (45, [.ref 148, .int a1, .int a2], [], sM Ln I1 L1 c s)) (B := (19, [.ref 148, .int a1, .int a2], [], sM Ln I1 L1 c s)) rfl (fun hc => ?_) (fun hc => ?_) (by omega)
    · have h := h.1 hc
      exact dd_Rn.retK 1 (pc := 46) (ls := [.ref 148, .int a1, .int a2]) (st := [.int 0]) (M := sM Ln I1 L1 c s) (o := (none, .int 0, sM Ln I1 L1 c s)) rfl rfl h (by omega)
    · have h := h.2 hc
      refine dd_Rn.ite 1 (c := a1 = 0) (A := (33, [.ref 148, .int a1, .int a2], [], sM Ln I1 L1 c s)) (B := (23, [.ref 148, .int a1, .int a2], [], sM Ln I1 L1 c s)) rfl (fun hc => ?_) (fun hc => ?_) (by omega)
      · have h := h.1 hc
        refine dd_Rn.cI 2 (pc := 35) (ls := [.ref 148, .int a1, .int a2]) (st := [.int a2, .ref 148]) (x := m_X11_readLawLine) (as := [.ref 148, .int a2]) (rest := []) rfl rfl rfl rfl h ?_
        intro x4 I4 L4 h
        show dd_Rn (e + 16) m_X11_readLine (38, [.ref 148, .int a1, .int a2], [.int x4], sM Ln I4 L4 c s) _
        refine dd_Rn.ite 0 (c := x4 = 0) (A := (45, [.ref 148, .int a1, .int a2], [], sM Ln I4 L4 c s)) (B := (41, [.ref 148, .int a1, .int a2], [], sM Ln I4 L4 c s)) rfl (fun hc => ?_) (fun hc => ?_) (by omega)
        · have h := h.1 hc
          exact dd_Rn.retK 1 (pc := 46) (ls := [.ref 148, .int a1, .int a2]) (st := [.int 0]) (M := sM Ln I4 L4 c s) (o := (none, .int 0, sM Ln I4 L4 c s)) rfl rfl h (by omega)
        · have h := h.2 hc
          exact dd_Rn.retK 2 (pc := 46) (ls := [.ref 148, .int a1, .int a2]) (st := [.int 1]) (M := sM Ln I4 L4 c s) (o := (none, .int 1, sM Ln I4 L4 c s)) rfl rfl h (by omega)
      · have h := h.2 hc
        refine dd_Rn.cI 1 (pc := 24) (ls := [.ref 148, .int a1, .int a2]) (st := [.ref 148]) (x := m_X11_readWoodLine) (as := [.ref 148]) (rest := []) rfl rfl rfl rfl h ?_
        intro x5 I5 L5 h
        show dd_Rn (e + 16) m_X11_readLine (27, [.ref 148, .int a1, .int a2], [.int x5], sM Ln I5 L5 c s) _
        refine dd_Rn.ite 0 (c := x5 = 0) (A := (45, [.ref 148, .int a1, .int a2], [], sM Ln I5 L5 c s)) (B := (30, [.ref 148, .int a1, .int a2], [], sM Ln I5 L5 c s)) rfl (fun hc => ?_) (fun hc => ?_) (by omega)
        · have h := h.1 hc
          exact dd_Rn.retK 1 (pc := 46) (ls := [.ref 148, .int a1, .int a2]) (st := [.int 0]) (M := sM Ln I5 L5 c s) (o := (none, .int 0, sM Ln I5 L5 c s)) rfl rfl h (by omega)
        · have h := h.2 hc
          exact dd_Rn.retK 3 (pc := 46) (ls := [.ref 148, .int a1, .int a2]) (st := [.int 1]) (M := sM Ln I5 L5 c s) (o := (none, .int 1, sM Ln I5 L5 c s)) rfl rfl h (by omega)

theorem w_X11_readAll_0 {Ln d c s : Nat} {I : Nat → Nat → Int32} {L : Nat → Nat → Int64} {Q : dd_O → Prop} {a1 : Int32} (hd : 28 ≤ d) (h : dd_Ev (d - 1) m_X11_blanks [.ref 148] (sM Ln (dd_u (dd_u (dd_u (dd_u (dd_u I 148 (upd (I 148) 0 0)) 148 (upd (upd (I 148) 0 0) 11 (I 148 9))) 148 (upd (upd (upd (I 148) 0 0) 11 (I 148 9)) 9 0)) 148 (upd (upd (upd (upd (I 148) 0 0) 11 (I 148 9)) 9 0) 10 0)) 148 (upd (upd (upd (upd (upd (I 148) 0 0) 11 (I 148 9)) 9 0) 10 0) 16 0)) L c s) (dd_RV Ln c s (fun I1 L1 => ((I1 148 10 = I1 148 11 → Q (none, .int 0, sM Ln I1 L1 c s)) ∧ (¬ (I1 148 10 = I1 148 11) → dd_Rn d m_X11_readAll (28, [.ref 148, .int a1, .int 0], [], sM Ln I1 L1 c s) Q))))) : dd_Ev d m_X11_readAll [.ref 148, .int a1] (sM Ln I L c s) Q := by
  obtain ⟨e, rfl⟩ : ∃ e, d = e + 16 := ⟨d - 16, by omega⟩
  show dd_Rn (e + 16) m_X11_readAll (0, [.ref 148, .int a1, .null], [], sM Ln I L c s) Q
  refine dd_Rn.sub 1 (pc := 1) (ls := [.ref 148, .int a1, .null]) (st := [.ref 148]) (M := sM Ln I L c s) (x := m_X11_uses) (as := [.ref 148]) (rest := []) rfl rfl rfl rfl ?_
  show dd_Rn (e + 15) m_X11_uses (0, [.ref 148], [], sM Ln I L c s) _
  refine dd_Rn.retK 13 (pc := 23) (ls := [.ref 148]) (st := []) (M := sM Ln (dd_u (dd_u (dd_u (dd_u I 148 (upd (I 148) 0 0)) 148 (upd (upd (I 148) 0 0) 11 (I 148 9))) 148 (upd (upd (upd (I 148) 0 0) 11 (I 148 9)) 9 0)) 148 (upd (upd (upd (upd (I 148) 0 0) 11 (I 148 9)) 9 0) 10 0)) L c s) (o := (none, .null, sM Ln (dd_u (dd_u (dd_u (dd_u I 148 (upd (I 148) 0 0)) 148 (upd (upd (I 148) 0 0) 11 (I 148 9))) 148 (upd (upd (upd (I 148) 0 0) 11 (I 148 9)) 9 0)) 148 (upd (upd (upd (upd (I 148) 0 0) 11 (I 148 9)) 9 0) 10 0)) L c s)) rfl rfl (dd_Af.ret rfl ?_) (by omega)
  show dd_Rn (e + 16) m_X11_readAll (4, [.ref 148, .int a1, .null], [], sM Ln (dd_u (dd_u (dd_u (dd_u I 148 (upd (I 148) 0 0)) 148 (upd (upd (I 148) 0 0) 11 (I 148 9))) 148 (upd (upd (upd (I 148) 0 0) 11 (I 148 9)) 9 0)) 148 (upd (upd (upd (upd (I 148) 0 0) 11 (I 148 9)) 9 0) 10 0)) L c s) _
  refine dd_Rn.cV 4 (pc := 10) (ls := [.ref 148, .int a1, .null]) (st := [.ref 148]) (x := m_X11_blanks) (as := [.ref 148]) (rest := []) rfl rfl rfl rfl h ?_
  intro I1 L1 h
  show dd_Rn (e + 16) m_X11_readAll (13, [.ref 148, .int a1, .null], [], sM Ln I1 L1 c s) _
  refine dd_Rn.ite 4 (c := I1 148 10 = I1 148 11) (A := (24, [.ref 148, .int a1, .null], [], sM Ln I1 L1 c s)) (B := (26, [.ref 148, .int a1, .null], [], sM Ln I1 L1 c s)) rfl (fun hc => ?_) (fun hc => ?_) (by omega)
  · have h := h.1 hc
    exact dd_Rn.retK 1 (pc := 25) (ls := [.ref 148, .int a1, .null]) (st := [.int 0]) (M := sM Ln I1 L1 c s) (o := (none, .int 0, sM Ln I1 L1 c s)) rfl rfl h (by omega)
  · have h := h.2 hc
    exact dd_Rn.go 2 (cf' := (28, [.ref 148, .int a1, .int 0], [], sM Ln I1 L1 c s)) rfl h (by omega)

theorem w_X11_readAll_28 {Ln d c s : Nat} {I : Nat → Nat → Int32} {L : Nat → Nat → Int64} {Q : dd_O → Prop} {a1 a2 : Int32} (hd : 28 ≤ d) (h : dd_Ev (d - 1) m_X11_readLine [.ref 148, .int a1, .int a2] (sM Ln I L c s) (dd_RI Ln c s (fun x1 I1 L1 => ((x1 = 0 → Q (none, .int (-1), sM Ln I1 L1 c s)) ∧ (¬ (x1 = 0) → dd_Ev (d - 1) m_X11_blanks [.ref 148] (sM Ln I1 L1 c s) (dd_RV Ln c s (fun I2 L2 => ((I2 148 10 = I2 148 11 → Q (none, .int (a2 + 1), sM Ln I2 L2 c s)) ∧ (¬ (I2 148 10 = I2 148 11) → dd_Ev (d - 1) m_X11_isAt [.ref 148, .int 59, .int 59] (sM Ln I2 L2 c s) (dd_RI Ln c s (fun x3 I3 L3 => ((x3 = 0 → Q (none, .int (-1), sM Ln I3 L3 c s)) ∧ (¬ (x3 = 0) → dd_Rn d m_X11_readAll (28, [.ref 148, .int a1, .int (a2 + 1)], [], sM Ln (dd_u I3 148 (upd (I3 148) 10 ((I3 148 10) + 1))) L3 c s) Q))))))))))))) : dd_Rn d m_X11_readAll (28, [.ref 148, .int a1, .int a2], [], sM Ln I L c s) Q := by
  obtain ⟨e, rfl⟩ : ∃ e, d = e + 16 := ⟨d - 16, by omega⟩
  refine dd_Rn.cI 3 (pc := 31) (ls := [.ref 148, .int a1, .int a2]) (st := [.int a2, .int a1, .ref 148]) (x := m_X11_readLine) (as := [.ref 148, .int a1, .int a2]) (rest := []) rfl rfl rfl rfl h ?_
  intro x1 I1 L1 h
  show dd_Rn (e + 16) m_X11_readAll (34, [.ref 148, .int a1, .int a2], [.int x1], sM Ln I1 L1 c s) _
  refine dd_Rn.ite 0 (c := x1 = 0) (A := (37, [.ref 148, .int a1, .int a2], [], sM Ln I1 L1 c s)) (B := (39, [.ref 148, .int a1, .int a2], [], sM Ln I1 L1 c s)) rfl (fun hc => ?_) (fun hc => ?_) (by omega)
  · have h := h.1 hc
    exact dd_Rn.retK 1 (pc := 38) (ls := [.ref 148, .int a1, .int a2]) (st := [.int (-1)]) (M := sM Ln I1 L1 c s) (o := (none, .int (-1), sM Ln I1 L1 c s)) rfl rfl h (by omega)
  · have h := h.2 hc
    refine dd_Rn.cV 1 (pc := 40) (ls := [.ref 148, .int a1, .int a2]) (st := [.ref 148]) (x := m_X11_blanks) (as := [.ref 148]) (rest := []) rfl rfl rfl rfl h ?_
    intro I2 L2 h
    show dd_Rn (e + 16) m_X11_readAll (43, [.ref 148, .int a1, .int a2], [], sM Ln I2 L2 c s) _
    refine dd_Rn.ite 4 (c := I2 148 10 = I2 148 11) (A := (54, [.ref 148, .int a1, .int a2], [], sM Ln I2 L2 c s)) (B := (58, [.ref 148, .int a1, .int a2], [], sM Ln I2 L2 c s)) rfl (fun hc => ?_) (fun hc => ?_) (by omega)
    · have h := h.1 hc
      exact dd_Rn.retK 3 (pc := 57) (ls := [.ref 148, .int a1, .int a2]) (st := [.int (a2 + 1)]) (M := sM Ln I2 L2 c s) (o := (none, .int (a2 + 1), sM Ln I2 L2 c s)) rfl rfl h (by omega)
    · have h := h.2 hc
      refine dd_Rn.cI 3 (pc := 63) (ls := [.ref 148, .int a1, .int a2]) (st := [.int 59, .int 59, .ref 148]) (x := m_X11_isAt) (as := [.ref 148, .int 59, .int 59]) (rest := []) rfl rfl rfl rfl h ?_
      intro x3 I3 L3 h
      show dd_Rn (e + 16) m_X11_readAll (66, [.ref 148, .int a1, .int a2], [.int x3], sM Ln I3 L3 c s) _
      refine dd_Rn.ite 0 (c := x3 = 0) (A := (69, [.ref 148, .int a1, .int a2], [], sM Ln I3 L3 c s)) (B := (71, [.ref 148, .int a1, .int a2], [], sM Ln I3 L3 c s)) rfl (fun hc => ?_) (fun hc => ?_) (by omega)
      · have h := h.1 hc
        exact dd_Rn.retK 1 (pc := 70) (ls := [.ref 148, .int a1, .int a2]) (st := [.int (-1)]) (M := sM Ln I3 L3 c s) (o := (none, .int (-1), sM Ln I3 L3 c s)) rfl rfl h (by omega)
      · have h := h.2 hc
        exact dd_Rn.go 8 (cf' := (28, [.ref 148, .int a1, .int (a2 + 1)], [], sM Ln (dd_u I3 148 (upd (I3 148) 10 ((I3 148 10) + 1))) L3 c s)) rfl h (by omega)

theorem w_X11_wood_0 {Ln d c s : Nat} {I : Nat → Nat → Int32} {L : Nat → Nat → Int64} {Q : dd_O → Prop} (hd : 28 ≤ d) (h : dd_Rn d m_X11_wood (2, [.ref 148, .int 0, .null], [], sM Ln I L c s) Q) : dd_Ev d m_X11_wood [.ref 148] (sM Ln I L c s) Q := by
  obtain ⟨e, rfl⟩ : ∃ e, d = e + 16 := ⟨d - 16, by omega⟩
  show dd_Rn (e + 16) m_X11_wood (0, [.ref 148, .null, .null], [], sM Ln I L c s) Q
  exact dd_Rn.go 2 (cf' := (2, [.ref 148, .int 0, .null], [], sM Ln I L c s)) rfl h (by omega)

theorem w_X11_wood_2 {Ln d c s : Nat} {I : Nat → Nat → Int32} {L : Nat → Nat → Int64} {Q : dd_O → Prop} {a1 : Int32} (hd : 28 ≤ d) (h : (((1371 : Int32) ≤ a1 → dd_Ev (d - 1) m_X11_readAll [.ref 148, .int 1] (sM Ln I L c s) (dd_RI Ln c s (fun x1 I1 L1 => (((0 : Int32) ≤ x1 → (((0 : Int32) ≤ x1 → ((I1 149 2 = 12 → dd_Rn d m_X11_wood (92, [.ref 148, .int x1, .int 0], [], sM Ln (dd_u (dd_u I1 148 (upd (I1 148) 14 (-1))) 148 (upd (upd (I1 148) 14 (-1)) 0 2)) L1 c s) Q) ∧ (¬ (I1 149 2 = 12) → Q (none, .int ((I1 149 2) + 1), sM Ln (dd_u (dd_u (dd_u I1 148 (upd (I1 148) 14 (-1))) 149 (upd (I1 149) 2 ((I1 149 2) + 1))) 148 (upd (upd (I1 148) 14 (-1)) 7 0)) L1 c s)))) ∧ (¬ ((0 : Int32) ≤ x1) → dd_Rn d m_X11_wood (92, [.ref 148, .int x1, .int 0], [], sM Ln (dd_u (dd_u I1 148 (upd (I1 148) 14 (-1))) 148 (upd (upd (I1 148) 14 (-1)) 0 1)) L1 c s) Q))) ∧ (¬ ((0 : Int32) ≤ x1) → (((0 : Int32) ≤ x1 → ((I1 149 2 = 12 → dd_Rn d m_X11_wood (92, [.ref 148, .int x1, .int 0], [], sM Ln (dd_u (dd_u I1 148 (upd (I1 148) 14 (I1 148 12))) 148 (upd (upd (I1 148) 14 (I1 148 12)) 0 2)) L1 c s) Q) ∧ (¬ (I1 149 2 = 12) → Q (none, .int ((I1 149 2) + 1), sM Ln (dd_u (dd_u (dd_u I1 148 (upd (I1 148) 14 (I1 148 12))) 149 (upd (I1 149) 2 ((I1 149 2) + 1))) 148 (upd (upd (I1 148) 14 (I1 148 12)) 7 0)) L1 c s)))) ∧ (¬ ((0 : Int32) ≤ x1) → dd_Rn d m_X11_wood (92, [.ref 148, .int x1, .int 0], [], sM Ln (dd_u (dd_u I1 148 (upd (I1 148) 14 (I1 148 12))) 148 (upd (upd (I1 148) 14 (I1 148 12)) 0 1)) L1 c s) Q))))))) ∧ (¬ ((1371 : Int32) ≤ a1) → ((0 ≤ a1 ∧ tn a1 < 2220) ∧ ((0 ≤ a1 ∧ tn a1 < 1371) ∧ dd_Rn d m_X11_wood (2, [.ref 148, .int (a1 + 1), .null], [], sM Ln (dd_u I 151 (upd (I 151) (tn a1) (I 149 (tn a1)))) L c s) Q))))) : dd_Rn d m_X11_wood (2, [.ref 148, .int a1, .null], [], sM Ln I L c s) Q := by
  obtain ⟨e, rfl⟩ : ∃ e, d = e + 16 := ⟨d - 16, by omega⟩
  refine dd_Rn.ite 2 (c := (1371 : Int32) ≤ a1) (A := (27, [.ref 148, .int a1, .null], [], sM Ln I L c s)) (B := (9, [.ref 148, .int a1, .null], [], sM Ln I L c s)) rfl (fun hc => ?_) (fun hc => ?_) (by omega)
  · have h := h.1 hc
    refine dd_Rn.cI 2 (pc := 29) (ls := [.ref 148, .int a1, .null]) (st := [.int 1, .ref 148]) (x := m_X11_readAll) (as := [.ref 148, .int 1]) (rest := []) rfl rfl rfl rfl h ?_
    intro x1 I1 L1 h
    show dd_Rn (e + 16) m_X11_wood (32, [.ref 148, .int a1, .null], [.int x1], sM Ln I1 L1 c s) _
    refine dd_Rn.ite 3 (c := (0 : Int32) ≤ x1) (A := (45, [.ref 148, .int x1, .null], [.ref 148], sM Ln I1 L1 c s)) (B := (38, [.ref 148, .int x1, .null], [.ref 148], sM Ln I1 L1 c s)) rfl (fun hc => ?_) (fun hc => ?_) (by omega)
    · have h := h.1 hc
      refine dd_Rn.ite 4 (c := (0 : Int32) ≤ x1) (A := (58, [.ref 148, .int x1, .null], [.ref 148], sM Ln (dd_u I1 148 (upd (I1 148) 14 (-1))) L1 c s)) (B := (54, [.ref 148, .int x1, .null], [.ref 148], sM Ln (dd_u I1 148 (upd (I1 148) 14 (-1))) L1 c s)) rfl (fun hc => ?_) (fun hc => ?_) (by omega)
      · have h := h.1 hc
        refine dd_Rn.sub 2 (pc := 60) (ls := [.ref 148, .int x1, .null]) (st := [.int 1, .int 0, .ref 148]) (M := sM Ln (dd_u I1 148 (upd (I1 148) 14 (-1))) L1 c s) (x := m_X11_throwsIf) (as := [.ref 148, .int 0, .int 1]) (rest := []) rfl rfl rfl rfl ?_
        show dd_Rn (e + 15) m_X11_throwsIf (0, [.ref 148, .int 0, .int 1], [], sM Ln (dd_u I1 148 (upd (I1 148) 14 (-1))) L1 c s) _
        refine dd_Rn.retK 3 (pc := 10) (ls := [.ref 148, .int 0, .int 1]) (st := [.int 0]) (M := sM Ln (dd_u I1 148 (upd (I1 148) 14 (-1))) L1 c s) (o := (none, .int 0, sM Ln (dd_u I1 148 (upd (I1 148) 14 (-1))) L1 c s)) rfl rfl (dd_Af.ret rfl ?_) (by omega)
        show dd_Rn (e + 16) m_X11_wood (63, [.ref 148, .int x1, .null], [.int 0], sM Ln (dd_u I1 148 (upd (I1 148) 14 (-1))) L1 c s) _
        refine dd_Rn.ite 7 (c := I1 149 2 = 12) (A := (78, [.ref 148, .int x1, .null], [.ref 148], sM Ln (dd_u I1 148 (upd (I1 148) 14 (-1))) L1 c s)) (B := (82, [.ref 148, .int x1, .null], [.ref 148], sM Ln (dd_u I1 148 (upd (I1 148) 14 (-1))) L1 c s)) rfl (fun hc => ?_) (fun hc => ?_) (by omega)
        · have h := h.1 hc
          refine dd_Rn.sub 3 (pc := 84) (ls := [.ref 148, .int x1, .null]) (st := [.int 2, .int 1, .ref 148]) (M := sM Ln (dd_u I1 148 (upd (I1 148) 14 (-1))) L1 c s) (x := m_X11_throwsIf) (as := [.ref 148, .int 1, .int 2]) (rest := []) rfl rfl rfl rfl ?_
          show dd_Rn (e + 15) m_X11_throwsIf (0, [.ref 148, .int 1, .int 2], [], sM Ln (dd_u I1 148 (upd (I1 148) 14 (-1))) L1 c s) _
          refine dd_Rn.retK 6 (pc := 10) (ls := [.ref 148, .int 1, .int 2]) (st := [.int 1]) (M := sM Ln (dd_u (dd_u I1 148 (upd (I1 148) 14 (-1))) 148 (upd (upd (I1 148) 14 (-1)) 0 2)) L1 c s) (o := (none, .int 1, sM Ln (dd_u (dd_u I1 148 (upd (I1 148) 14 (-1))) 148 (upd (upd (I1 148) 14 (-1)) 0 2)) L1 c s)) rfl rfl (dd_Af.ret rfl ?_) (by omega)
          show dd_Rn (e + 16) m_X11_wood (87, [.ref 148, .int x1, .null], [.int 1], sM Ln (dd_u (dd_u I1 148 (upd (I1 148) 14 (-1))) 148 (upd (upd (I1 148) 14 (-1)) 0 2)) L1 c s) _
          exact dd_Rn.go 3 (cf' := (92, [.ref 148, .int x1, .int 0], [], sM Ln (dd_u (dd_u I1 148 (upd (I1 148) 14 (-1))) 148 (upd (upd (I1 148) 14 (-1)) 0 2)) L1 c s)) rfl h (by omega)
        · have h := h.2 hc
          refine dd_Rn.sub 2 (pc := 84) (ls := [.ref 148, .int x1, .null]) (st := [.int 2, .int 0, .ref 148]) (M := sM Ln (dd_u I1 148 (upd (I1 148) 14 (-1))) L1 c s) (x := m_X11_throwsIf) (as := [.ref 148, .int 0, .int 2]) (rest := []) rfl rfl rfl rfl ?_
          show dd_Rn (e + 15) m_X11_throwsIf (0, [.ref 148, .int 0, .int 2], [], sM Ln (dd_u I1 148 (upd (I1 148) 14 (-1))) L1 c s) _
          refine dd_Rn.retK 3 (pc := 10) (ls := [.ref 148, .int 0, .int 2]) (st := [.int 0]) (M := sM Ln (dd_u I1 148 (upd (I1 148) 14 (-1))) L1 c s) (o := (none, .int 0, sM Ln (dd_u I1 148 (upd (I1 148) 14 (-1))) L1 c s)) rfl rfl (dd_Af.ret rfl ?_) (by omega)
          show dd_Rn (e + 16) m_X11_wood (87, [.ref 148, .int x1, .null], [.int 0], sM Ln (dd_u I1 148 (upd (I1 148) 14 (-1))) L1 c s) _
          exact dd_Rn.retK 16 (pc := 140) (ls := [.ref 148, .int x1, .null]) (st := [.int ((I1 149 2) + 1)]) (M := sM Ln (dd_u (dd_u (dd_u I1 148 (upd (I1 148) 14 (-1))) 149 (upd (I1 149) 2 ((I1 149 2) + 1))) 148 (upd (upd (I1 148) 14 (-1)) 7 0)) L1 c s) (o := (none, .int ((I1 149 2) + 1), sM Ln (dd_u (dd_u (dd_u I1 148 (upd (I1 148) 14 (-1))) 149 (upd (I1 149) 2 ((I1 149 2) + 1))) 148 (upd (upd (I1 148) 14 (-1)) 7 0)) L1 c s)) rfl rfl h (by omega)
      · have h := h.2 hc
        refine dd_Rn.sub 3 (pc := 60) (ls := [.ref 148, .int x1, .null]) (st := [.int 1, .int 1, .ref 148]) (M := sM Ln (dd_u I1 148 (upd (I1 148) 14 (-1))) L1 c s) (x := m_X11_throwsIf) (as := [.ref 148, .int 1, .int 1]) (rest := []) rfl rfl rfl rfl ?_
        show dd_Rn (e + 15) m_X11_throwsIf (0, [.ref 148, .int 1, .int 1], [], sM Ln (dd_u I1 148 (upd (I1 148) 14 (-1))) L1 c s) _
        refine dd_Rn.retK 6 (pc := 10) (ls := [.ref 148, .int 1, .int 1]) (st := [.int 1]) (M := sM Ln (dd_u (dd_u I1 148 (upd (I1 148) 14 (-1))) 148 (upd (upd (I1 148) 14 (-1)) 0 1)) L1 c s) (o := (none, .int 1, sM Ln (dd_u (dd_u I1 148 (upd (I1 148) 14 (-1))) 148 (upd (upd (I1 148) 14 (-1)) 0 1)) L1 c s)) rfl rfl (dd_Af.ret rfl ?_) (by omega)
        show dd_Rn (e + 16) m_X11_wood (63, [.ref 148, .int x1, .null], [.int 1], sM Ln (dd_u (dd_u I1 148 (upd (I1 148) 14 (-1))) 148 (upd (upd (I1 148) 14 (-1)) 0 1)) L1 c s) _
        exact dd_Rn.go 3 (cf' := (92, [.ref 148, .int x1, .int 0], [], sM Ln (dd_u (dd_u I1 148 (upd (I1 148) 14 (-1))) 148 (upd (upd (I1 148) 14 (-1)) 0 1)) L1 c s)) rfl h (by omega)
    · have h := h.2 hc
      refine dd_Rn.ite 6 (c := (0 : Int32) ≤ x1) (A := (58, [.ref 148, .int x1, .null], [.ref 148], sM Ln (dd_u I1 148 (upd (I1 148) 14 (I1 148 12))) L1 c s)) (B := (54, [.ref 148, .int x1, .null], [.ref 148], sM Ln (dd_u I1 148 (upd (I1 148) 14 (I1 148 12))) L1 c s)) rfl (fun hc => ?_) (fun hc => ?_) (by omega)
      · have h := h.1 hc
        refine dd_Rn.sub 2 (pc := 60) (ls := [.ref 148, .int x1, .null]) (st := [.int 1, .int 0, .ref 148]) (M := sM Ln (dd_u I1 148 (upd (I1 148) 14 (I1 148 12))) L1 c s) (x := m_X11_throwsIf) (as := [.ref 148, .int 0, .int 1]) (rest := []) rfl rfl rfl rfl ?_
        show dd_Rn (e + 15) m_X11_throwsIf (0, [.ref 148, .int 0, .int 1], [], sM Ln (dd_u I1 148 (upd (I1 148) 14 (I1 148 12))) L1 c s) _
        refine dd_Rn.retK 3 (pc := 10) (ls := [.ref 148, .int 0, .int 1]) (st := [.int 0]) (M := sM Ln (dd_u I1 148 (upd (I1 148) 14 (I1 148 12))) L1 c s) (o := (none, .int 0, sM Ln (dd_u I1 148 (upd (I1 148) 14 (I1 148 12))) L1 c s)) rfl rfl (dd_Af.ret rfl ?_) (by omega)
        show dd_Rn (e + 16) m_X11_wood (63, [.ref 148, .int x1, .null], [.int 0], sM Ln (dd_u I1 148 (upd (I1 148) 14 (I1 148 12))) L1 c s) _
        refine dd_Rn.ite 7 (c := I1 149 2 = 12) (A := (78, [.ref 148, .int x1, .null], [.ref 148], sM Ln (dd_u I1 148 (upd (I1 148) 14 (I1 148 12))) L1 c s)) (B := (82, [.ref 148, .int x1, .null], [.ref 148], sM Ln (dd_u I1 148 (upd (I1 148) 14 (I1 148 12))) L1 c s)) rfl (fun hc => ?_) (fun hc => ?_) (by omega)
        · have h := h.1 hc
          refine dd_Rn.sub 3 (pc := 84) (ls := [.ref 148, .int x1, .null]) (st := [.int 2, .int 1, .ref 148]) (M := sM Ln (dd_u I1 148 (upd (I1 148) 14 (I1 148 12))) L1 c s) (x := m_X11_throwsIf) (as := [.ref 148, .int 1, .int 2]) (rest := []) rfl rfl rfl rfl ?_
          show dd_Rn (e + 15) m_X11_throwsIf (0, [.ref 148, .int 1, .int 2], [], sM Ln (dd_u I1 148 (upd (I1 148) 14 (I1 148 12))) L1 c s) _
          refine dd_Rn.retK 6 (pc := 10) (ls := [.ref 148, .int 1, .int 2]) (st := [.int 1]) (M := sM Ln (dd_u (dd_u I1 148 (upd (I1 148) 14 (I1 148 12))) 148 (upd (upd (I1 148) 14 (I1 148 12)) 0 2)) L1 c s) (o := (none, .int 1, sM Ln (dd_u (dd_u I1 148 (upd (I1 148) 14 (I1 148 12))) 148 (upd (upd (I1 148) 14 (I1 148 12)) 0 2)) L1 c s)) rfl rfl (dd_Af.ret rfl ?_) (by omega)
          show dd_Rn (e + 16) m_X11_wood (87, [.ref 148, .int x1, .null], [.int 1], sM Ln (dd_u (dd_u I1 148 (upd (I1 148) 14 (I1 148 12))) 148 (upd (upd (I1 148) 14 (I1 148 12)) 0 2)) L1 c s) _
          exact dd_Rn.go 3 (cf' := (92, [.ref 148, .int x1, .int 0], [], sM Ln (dd_u (dd_u I1 148 (upd (I1 148) 14 (I1 148 12))) 148 (upd (upd (I1 148) 14 (I1 148 12)) 0 2)) L1 c s)) rfl h (by omega)
        · have h := h.2 hc
          refine dd_Rn.sub 2 (pc := 84) (ls := [.ref 148, .int x1, .null]) (st := [.int 2, .int 0, .ref 148]) (M := sM Ln (dd_u I1 148 (upd (I1 148) 14 (I1 148 12))) L1 c s) (x := m_X11_throwsIf) (as := [.ref 148, .int 0, .int 2]) (rest := []) rfl rfl rfl rfl ?_
          show dd_Rn (e + 15) m_X11_throwsIf (0, [.ref 148, .int 0, .int 2], [], sM Ln (dd_u I1 148 (upd (I1 148) 14 (I1 148 12))) L1 c s) _
          refine dd_Rn.retK 3 (pc := 10) (ls := [.ref 148, .int 0, .int 2]) (st := [.int 0]) (M := sM Ln (dd_u I1 148 (upd (I1 148) 14 (I1 148 12))) L1 c s) (o := (none, .int 0, sM Ln (dd_u I1 148 (upd (I1 148) 14 (I1 148 12))) L1 c s)) rfl rfl (dd_Af.ret rfl ?_) (by omega)
          show dd_Rn (e + 16) m_X11_wood (87, [.ref 148, .int x1, .null], [.int 0], sM Ln (dd_u I1 148 (upd (I1 148) 14 (I1 148 12))) L1 c s) _
          exact dd_Rn.retK 16 (pc := 140) (ls := [.ref 148, .int x1, .null]) (st := [.int ((I1 149 2) + 1)]) (M := sM Ln (dd_u (dd_u (dd_u I1 148 (upd (I1 148) 14 (I1 148 12))) 149 (upd (I1 149) 2 ((I1 149 2) + 1))) 148 (upd (upd (I1 148) 14 (I1 148 12)) 7 0)) L1 c s) (o := (none, .int ((I1 149 2) + 1), sM Ln (dd_u (dd_u (dd_u I1 148 (upd (I1 148) 14 (I1 148 12))) 149 (upd (I1 149) 2 ((I1 149 2) + 1))) 148 (upd (upd (I1 148) 14 (I1 148 12)) 7 0)) L1 c s)) rfl rfl h (by omega)
      · have h := h.2 hc
        refine dd_Rn.sub 3 (pc := 60) (ls := [.ref 148, .int x1, .null]) (st := [.int 1, .int 1, .ref 148]) (M := sM Ln (dd_u I1 148 (upd (I1 148) 14 (I1 148 12))) L1 c s) (x := m_X11_throwsIf) (as := [.ref 148, .int 1, .int 1]) (rest := []) rfl rfl rfl rfl ?_
        show dd_Rn (e + 15) m_X11_throwsIf (0, [.ref 148, .int 1, .int 1], [], sM Ln (dd_u I1 148 (upd (I1 148) 14 (I1 148 12))) L1 c s) _
        refine dd_Rn.retK 6 (pc := 10) (ls := [.ref 148, .int 1, .int 1]) (st := [.int 1]) (M := sM Ln (dd_u (dd_u I1 148 (upd (I1 148) 14 (I1 148 12))) 148 (upd (upd (I1 148) 14 (I1 148 12)) 0 1)) L1 c s) (o := (none, .int 1, sM Ln (dd_u (dd_u I1 148 (upd (I1 148) 14 (I1 148 12))) 148 (upd (upd (I1 148) 14 (I1 148 12)) 0 1)) L1 c s)) rfl rfl (dd_Af.ret rfl ?_) (by omega)
        show dd_Rn (e + 16) m_X11_wood (63, [.ref 148, .int x1, .null], [.int 1], sM Ln (dd_u (dd_u I1 148 (upd (I1 148) 14 (I1 148 12))) 148 (upd (upd (I1 148) 14 (I1 148 12)) 0 1)) L1 c s) _
        exact dd_Rn.go 3 (cf' := (92, [.ref 148, .int x1, .int 0], [], sM Ln (dd_u (dd_u I1 148 (upd (I1 148) 14 (I1 148 12))) 148 (upd (upd (I1 148) 14 (I1 148 12)) 0 1)) L1 c s)) rfl h (by omega)
  · have h := h.2 hc
    obtain ⟨hc, h⟩ := h
    refine dd_Rn.chk 6 (c := 0 ≤ a1 ∧ tn a1 < 2220) (A := (20, [.ref 148, .int a1, .null], [.int (I 149 (tn a1)), .int a1, .ref 151], sM Ln I L c s)) rfl hc ?_ (by omega)
    obtain ⟨hc, h⟩ := h
    refine dd_Rn.chk 0 (c := 0 ≤ a1 ∧ tn a1 < 1371) (A := (21, [.ref 148, .int a1, .null], [], sM Ln (dd_u I 151 (upd (I 151) (tn a1) (I 149 (tn a1)))) L c s)) rfl hc ?_ (by omega)
    exact dd_Rn.go 2 (cf' := (2, [.ref 148, .int (a1 + 1), .null], [], sM Ln (dd_u I 151 (upd (I 151) (tn a1) (I 149 (tn a1)))) L c s)) rfl h (by omega)

theorem w_X11_wood_92 {Ln d c s : Nat} {I : Nat → Nat → Int32} {L : Nat → Nat → Int64} {Q : dd_O → Prop} {a1 a2 : Int32} (hd : 28 ≤ d) (h : (((1371 : Int32) ≤ a2 → Q (none, .int 0, sM Ln I L c s)) ∧ (¬ ((1371 : Int32) ≤ a2) → ((0 ≤ a2 ∧ tn a2 < 1371) ∧ ((0 ≤ a2 ∧ tn a2 < 2220) ∧ dd_Rn d m_X11_wood (92, [.ref 148, .int a1, .int (a2 + 1)], [], sM Ln (dd_u I 149 (upd (I 149) (tn a2) (I 151 (tn a2)))) L c s) Q))))) : dd_Rn d m_X11_wood (92, [.ref 148, .int a1, .int a2], [], sM Ln I L c s) Q := by
  obtain ⟨e, rfl⟩ : ∃ e, d = e + 16 := ⟨d - 16, by omega⟩
  refine dd_Rn.ite 2 (c := (1371 : Int32) ≤ a2) (A := (117, [.ref 148, .int a1, .int a2], [], sM Ln I L c s)) (B := (99, [.ref 148, .int a1, .int a2], [], sM Ln I L c s)) rfl (fun hc => ?_) (fun hc => ?_) (by omega)
  · have h := h.1 hc
    exact dd_Rn.retK 1 (pc := 118) (ls := [.ref 148, .int a1, .int a2]) (st := [.int 0]) (M := sM Ln I L c s) (o := (none, .int 0, sM Ln I L c s)) rfl rfl h (by omega)
  · have h := h.2 hc
    obtain ⟨hc, h⟩ := h
    refine dd_Rn.chk 6 (c := 0 ≤ a2 ∧ tn a2 < 1371) (A := (110, [.ref 148, .int a1, .int a2], [.int (I 151 (tn a2)), .int a2, .ref 149], sM Ln I L c s)) rfl hc ?_ (by omega)
    obtain ⟨hc, h⟩ := h
    refine dd_Rn.chk 0 (c := 0 ≤ a2 ∧ tn a2 < 2220) (A := (111, [.ref 148, .int a1, .int a2], [], sM Ln (dd_u I 149 (upd (I 149) (tn a2) (I 151 (tn a2)))) L c s)) rfl hc ?_ (by omega)
    exact dd_Rn.go 2 (cf' := (92, [.ref 148, .int a1, .int (a2 + 1)], [], sM Ln (dd_u I 149 (upd (I 149) (tn a2) (I 151 (tn a2)))) L c s)) rfl h (by omega)

theorem w_X11_law_0 {Ln d c s : Nat} {I : Nat → Nat → Int32} {L : Nat → Nat → Int64} {Q : dd_O → Prop} (hd : 28 ≤ d) (h : dd_Ev (d - 1) m_X11_readAll [.ref 148, .int 0] (sM Ln I L c s) (dd_RI Ln c s (fun x1 I1 L1 => (((0 : Int32) ≤ x1 → (((0 : Int32) ≤ x1 → dd_Rn d m_X11_law (52, [.ref 148, .int x1, .int 0], [], sM Ln (dd_u (dd_u I1 148 (upd (I1 148) 14 (-1))) 149 (upd (I1 149) 1371 x1)) L1 c s) Q) ∧ (¬ ((0 : Int32) ≤ x1) → Q (none, .int 0, sM Ln (dd_u (dd_u I1 148 (upd (I1 148) 14 (-1))) 148 (upd (upd (I1 148) 14 (-1)) 0 1)) L1 c s)))) ∧ (¬ ((0 : Int32) ≤ x1) → (((0 : Int32) ≤ x1 → dd_Rn d m_X11_law (52, [.ref 148, .int x1, .int 0], [], sM Ln (dd_u (dd_u I1 148 (upd (I1 148) 14 (I1 148 12))) 149 (upd (I1 149) 1371 x1)) L1 c s) Q) ∧ (¬ ((0 : Int32) ≤ x1) → Q (none, .int 0, sM Ln (dd_u (dd_u I1 148 (upd (I1 148) 14 (I1 148 12))) 148 (upd (upd (I1 148) 14 (I1 148 12)) 0 1)) L1 c s)))))))) : dd_Ev d m_X11_law [.ref 148] (sM Ln I L c s) Q := by
  obtain ⟨e, rfl⟩ : ∃ e, d = e + 16 := ⟨d - 16, by omega⟩
  show dd_Rn (e + 16) m_X11_law (0, [.ref 148, .null, .null], [], sM Ln I L c s) Q
  refine dd_Rn.cI 2 (pc := 2) (ls := [.ref 148, .null, .null]) (st := [.int 0, .ref 148]) (x := m_X11_readAll) (as := [.ref 148, .int 0]) (rest := []) rfl rfl rfl rfl h ?_
  intro x1 I1 L1 h
  show dd_Rn (e + 16) m_X11_law (5, [.ref 148, .null, .null], [.int x1], sM Ln I1 L1 c s) _
  refine dd_Rn.ite 3 (c := (0 : Int32) ≤ x1) (A := (18, [.ref 148, .int x1, .null], [.ref 148], sM Ln I1 L1 c s)) (B := (11, [.ref 148, .int x1, .null], [.ref 148], sM Ln I1 L1 c s)) rfl (fun hc => ?_) (fun hc => ?_) (by omega)
  · have h := h.1 hc
    refine dd_Rn.ite 4 (c := (0 : Int32) ≤ x1) (A := (31, [.ref 148, .int x1, .null], [.ref 148], sM Ln (dd_u I1 148 (upd (I1 148) 14 (-1))) L1 c s)) (B := (27, [.ref 148, .int x1, .null], [.ref 148], sM Ln (dd_u I1 148 (upd (I1 148) 14 (-1))) L1 c s)) rfl (fun hc => ?_) (fun hc => ?_) (by omega)
    · have h := h.1 hc
      refine dd_Rn.sub 2 (pc := 33) (ls := [.ref 148, .int x1, .null]) (st := [.int 1, .int 0, .ref 148]) (M := sM Ln (dd_u I1 148 (upd (I1 148) 14 (-1))) L1 c s) (x := m_X11_throwsIf) (as := [.ref 148, .int 0, .int 1]) (rest := []) rfl rfl rfl rfl ?_
      show dd_Rn (e + 15) m_X11_throwsIf (0, [.ref 148, .int 0, .int 1], [], sM Ln (dd_u I1 148 (upd (I1 148) 14 (-1))) L1 c s) _
      refine dd_Rn.retK 3 (pc := 10) (ls := [.ref 148, .int 0, .int 1]) (st := [.int 0]) (M := sM Ln (dd_u I1 148 (upd (I1 148) 14 (-1))) L1 c s) (o := (none, .int 0, sM Ln (dd_u I1 148 (upd (I1 148) 14 (-1))) L1 c s)) rfl rfl (dd_Af.ret rfl ?_) (by omega)
      show dd_Rn (e + 16) m_X11_law (36, [.ref 148, .int x1, .null], [.int 0], sM Ln (dd_u I1 148 (upd (I1 148) 14 (-1))) L1 c s) _
      exact dd_Rn.go 8 (cf' := (52, [.ref 148, .int x1, .int 0], [], sM Ln (dd_u (dd_u I1 148 (upd (I1 148) 14 (-1))) 149 (upd (I1 149) 1371 x1)) L1 c s)) rfl h (by omega)
    · have h := h.2 hc
      refine dd_Rn.sub 3 (pc := 33) (ls := [.ref 148, .int x1, .null]) (st := [.int 1, .int 1, .ref 148]) (M := sM Ln (dd_u I1 148 (upd (I1 148) 14 (-1))) L1 c s) (x := m_X11_throwsIf) (as := [.ref 148, .int 1, .int 1]) (rest := []) rfl rfl rfl rfl ?_
      show dd_Rn (e + 15) m_X11_throwsIf (0, [.ref 148, .int 1, .int 1], [], sM Ln (dd_u I1 148 (upd (I1 148) 14 (-1))) L1 c s) _
      refine dd_Rn.retK 6 (pc := 10) (ls := [.ref 148, .int 1, .int 1]) (st := [.int 1]) (M := sM Ln (dd_u (dd_u I1 148 (upd (I1 148) 14 (-1))) 148 (upd (upd (I1 148) 14 (-1)) 0 1)) L1 c s) (o := (none, .int 1, sM Ln (dd_u (dd_u I1 148 (upd (I1 148) 14 (-1))) 148 (upd (upd (I1 148) 14 (-1)) 0 1)) L1 c s)) rfl rfl (dd_Af.ret rfl ?_) (by omega)
      show dd_Rn (e + 16) m_X11_law (36, [.ref 148, .int x1, .null], [.int 1], sM Ln (dd_u (dd_u I1 148 (upd (I1 148) 14 (-1))) 148 (upd (upd (I1 148) 14 (-1)) 0 1)) L1 c s) _
      exact dd_Rn.retK 2 (pc := 40) (ls := [.ref 148, .int x1, .null]) (st := [.int 0]) (M := sM Ln (dd_u (dd_u I1 148 (upd (I1 148) 14 (-1))) 148 (upd (upd (I1 148) 14 (-1)) 0 1)) L1 c s) (o := (none, .int 0, sM Ln (dd_u (dd_u I1 148 (upd (I1 148) 14 (-1))) 148 (upd (upd (I1 148) 14 (-1)) 0 1)) L1 c s)) rfl rfl h (by omega)
  · have h := h.2 hc
    refine dd_Rn.ite 6 (c := (0 : Int32) ≤ x1) (A := (31, [.ref 148, .int x1, .null], [.ref 148], sM Ln (dd_u I1 148 (upd (I1 148) 14 (I1 148 12))) L1 c s)) (B := (27, [.ref 148, .int x1, .null], [.ref 148], sM Ln (dd_u I1 148 (upd (I1 148) 14 (I1 148 12))) L1 c s)) rfl (fun hc => ?_) (fun hc => ?_) (by omega)
    · have h := h.1 hc
      refine dd_Rn.sub 2 (pc := 33) (ls := [.ref 148, .int x1, .null]) (st := [.int 1, .int 0, .ref 148]) (M := sM Ln (dd_u I1 148 (upd (I1 148) 14 (I1 148 12))) L1 c s) (x := m_X11_throwsIf) (as := [.ref 148, .int 0, .int 1]) (rest := []) rfl rfl rfl rfl ?_
      show dd_Rn (e + 15) m_X11_throwsIf (0, [.ref 148, .int 0, .int 1], [], sM Ln (dd_u I1 148 (upd (I1 148) 14 (I1 148 12))) L1 c s) _
      refine dd_Rn.retK 3 (pc := 10) (ls := [.ref 148, .int 0, .int 1]) (st := [.int 0]) (M := sM Ln (dd_u I1 148 (upd (I1 148) 14 (I1 148 12))) L1 c s) (o := (none, .int 0, sM Ln (dd_u I1 148 (upd (I1 148) 14 (I1 148 12))) L1 c s)) rfl rfl (dd_Af.ret rfl ?_) (by omega)
      show dd_Rn (e + 16) m_X11_law (36, [.ref 148, .int x1, .null], [.int 0], sM Ln (dd_u I1 148 (upd (I1 148) 14 (I1 148 12))) L1 c s) _
      exact dd_Rn.go 8 (cf' := (52, [.ref 148, .int x1, .int 0], [], sM Ln (dd_u (dd_u I1 148 (upd (I1 148) 14 (I1 148 12))) 149 (upd (I1 149) 1371 x1)) L1 c s)) rfl h (by omega)
    · have h := h.2 hc
      refine dd_Rn.sub 3 (pc := 33) (ls := [.ref 148, .int x1, .null]) (st := [.int 1, .int 1, .ref 148]) (M := sM Ln (dd_u I1 148 (upd (I1 148) 14 (I1 148 12))) L1 c s) (x := m_X11_throwsIf) (as := [.ref 148, .int 1, .int 1]) (rest := []) rfl rfl rfl rfl ?_
      show dd_Rn (e + 15) m_X11_throwsIf (0, [.ref 148, .int 1, .int 1], [], sM Ln (dd_u I1 148 (upd (I1 148) 14 (I1 148 12))) L1 c s) _
      refine dd_Rn.retK 6 (pc := 10) (ls := [.ref 148, .int 1, .int 1]) (st := [.int 1]) (M := sM Ln (dd_u (dd_u I1 148 (upd (I1 148) 14 (I1 148 12))) 148 (upd (upd (I1 148) 14 (I1 148 12)) 0 1)) L1 c s) (o := (none, .int 1, sM Ln (dd_u (dd_u I1 148 (upd (I1 148) 14 (I1 148 12))) 148 (upd (upd (I1 148) 14 (I1 148 12)) 0 1)) L1 c s)) rfl rfl (dd_Af.ret rfl ?_) (by omega)
      show dd_Rn (e + 16) m_X11_law (36, [.ref 148, .int x1, .null], [.int 1], sM Ln (dd_u (dd_u I1 148 (upd (I1 148) 14 (I1 148 12))) 148 (upd (upd (I1 148) 14 (I1 148 12)) 0 1)) L1 c s) _
      exact dd_Rn.retK 2 (pc := 40) (ls := [.ref 148, .int x1, .null]) (st := [.int 0]) (M := sM Ln (dd_u (dd_u I1 148 (upd (I1 148) 14 (I1 148 12))) 148 (upd (upd (I1 148) 14 (I1 148 12)) 0 1)) L1 c s) (o := (none, .int 0, sM Ln (dd_u (dd_u I1 148 (upd (I1 148) 14 (I1 148 12))) 148 (upd (upd (I1 148) 14 (I1 148 12)) 0 1)) L1 c s)) rfl rfl h (by omega)

theorem w_X11_law_52 {Ln d c s : Nat} {I : Nat → Nat → Int32} {L : Nat → Nat → Int64} {Q : dd_O → Prop} {a1 a2 : Int32} (hd : 28 ≤ d) (h : (((849 : Int32) ≤ a2 → Q (none, .int a1, sM Ln (dd_u (dd_u I 149 (upd (I 149) 3 1)) 148 (upd (I 148) 7 0)) L c s)) ∧ (¬ ((849 : Int32) ≤ a2) → ((0 ≤ (1371 : Int32) + a2 ∧ tn ((1371 : Int32) + a2) < 2220) ∧ ((0 ≤ (522 : Int32) + a2 ∧ tn ((522 : Int32) + a2) < 2220) ∧ dd_Rn d m_X11_law (52, [.ref 148, .int a1, .int (a2 + 1)], [], sM Ln (dd_u I 149 (upd (I 149) (tn ((522 : Int32) + a2)) (I 149 (tn ((1371 : Int32) + a2))))) L c s) Q))))) : dd_Rn d m_X11_law (52, [.ref 148, .int a1, .int a2], [], sM Ln I L c s) Q := by
  obtain ⟨e, rfl⟩ : ∃ e, d = e + 16 := ⟨d - 16, by omega⟩
  refine dd_Rn.ite 2 (c := (849 : Int32) ≤ a2) (A := (85, [.ref 148, .int a1, .int a2], [], sM Ln I L c s)) (B := (59, [.ref 148, .int a1, .int a2], [], sM Ln I L c s)) rfl (fun hc => ?_) (fun hc => ?_) (by omega)
  · have h := h.1 hc
    exact dd_Rn.retK 9 (pc := 98) (ls := [.ref 148, .int a1, .int a2]) (st := [.int a1]) (M := sM Ln (dd_u (dd_u I 149 (upd (I 149) 3 1)) 148 (upd (I 148) 7 0)) L c s) (o := (none, .int a1, sM Ln (dd_u (dd_u I 149 (upd (I 149) 3 1)) 148 (upd (I 148) 7 0)) L c s)) rfl rfl h (by omega)
  · have h := h.2 hc
    obtain ⟨hc, h⟩ := h
    refine dd_Rn.go 10 (cf' := (77, [.ref 148, .int a1, .int a2], [.int ((1371 : Int32) + a2), .ref 149, .int ((522 : Int32) + a2), .ref 149], sM Ln I L c s)) rfl ?_ (by omega)
    refine dd_Rn.ci (fun j0 => (77, [.ref 148, .int a1, .int a2], [.int j0, .ref 149, .int ((522 : Int32) + a2), .ref 149], sM Ln I L c s)) (fun j0 => (78, [.ref 148, .int a1, .int a2], [.int (I 149 (tn j0)), .int ((522 : Int32) + a2), .ref 149], sM Ln I L c s)) (fun j0 => 0 ≤ j0 ∧ tn j0 < 2220) ((1371 : Int32) + a2) (fun j0 hc h => dd_Rn.chk 0 (c := 0 ≤ j0 ∧ tn j0 < 2220) (A := (78, [.ref 148, .int a1, .int a2], [.int (I 149 (tn j0)), .int ((522 : Int32) + a2), .ref 149], sM Ln I L c s)) rfl hc h (by omega)) hc ?_
    refine dd_Rn.se (cf := (78, [.ref 148, .int a1, .int a2], [.int (I 149 (tn ((1371 : Int32) + a2))), .int ((522 : Int32) + a2), .ref 149], sM Ln I L c s)) ?_
    obtain ⟨hc, h⟩ := h
    refine dd_Rn.ci (fun j0 => (78, [.ref 148, .int a1, .int a2], [.int (I 149 (tn ((1371 : Int32) + a2))), .int j0, .ref 149], sM Ln I L c s)) (fun j0 => (79, [.ref 148, .int a1, .int a2], [], sM Ln (dd_u I 149 (upd (I 149) (tn j0) (I 149 (tn ((1371 : Int32) + a2))))) L c s)) (fun j0 => 0 ≤ j0 ∧ tn j0 < 2220) ((522 : Int32) + a2) (fun j0 hc h => dd_Rn.chk 0 (c := 0 ≤ j0 ∧ tn j0 < 2220) (A := (79, [.ref 148, .int a1, .int a2], [], sM Ln (dd_u I 149 (upd (I 149) (tn j0) (I 149 (tn ((1371 : Int32) + a2))))) L c s)) rfl hc h (by omega)) hc ?_
    refine dd_Rn.se (cf := (79, [.ref 148, .int a1, .int a2], [], sM Ln (dd_u I 149 (upd (I 149) (tn ((522 : Int32) + a2)) (I 149 (tn ((1371 : Int32) + a2))))) L c s)) ?_
    exact dd_Rn.go 2 (cf' := (52, [.ref 148, .int a1, .int (a2 + 1)], [], sM Ln (dd_u I 149 (upd (I 149) (tn ((522 : Int32) + a2)) (I 149 (tn ((1371 : Int32) + a2))))) L c s)) rfl h (by omega)

theorem w_X11_sing_0 {Ln d c s : Nat} {I : Nat → Nat → Int32} {L : Nat → Nat → Int64} {Q : dd_O → Prop} {a1 : Int32} (hd : 28 ≤ d) (h : ((a1 < 1 → Q (none, .int 0, sM Ln (dd_u (dd_u I 148 (upd (I 148) 0 0)) 148 (upd (upd (I 148) 0 0) 0 1)) L c s)) ∧ (¬ (a1 < 1) → (((120 : Int32) < a1 → Q (none, .int 0, sM Ln (dd_u (dd_u I 148 (upd (I 148) 0 0)) 148 (upd (upd (I 148) 0 0) 0 1)) L c s)) ∧ (¬ ((120 : Int32) < a1) → dd_Ev (d - 1) m_X11_remembers [.ref 148] (sM Ln (dd_u I 148 (upd (I 148) 0 0)) L c s) (dd_RV Ln c s (fun I1 L1 => dd_Ev (d - 1) m_X11_goesOn [.ref 148, .int a1, .int 0] (sM Ln I1 L1 c s) (dd_RI Ln c s (fun x2 I2 L2 => Q (none, .int x2, sM Ln I2 L2 c s)))))))))) : dd_Ev d m_X11_sing [.ref 148, .int a1] (sM Ln I L c s) Q := by
  obtain ⟨e, rfl⟩ : ∃ e, d = e + 16 := ⟨d - 16, by omega⟩
  show dd_Rn (e + 16) m_X11_sing (0, [.ref 148, .int a1], [], sM Ln I L c s) Q
  refine dd_Rn.sub 7 (pc := 10) (ls := [.ref 148, .int a1]) (st := [.int 120, .int 1, .int a1, .ref 148]) (M := sM Ln (dd_u I 148 (upd (I 148) 0 0)) L c s) (x := m_X11_in) (as := [.int a1, .int 1, .int 120]) (rest := [.ref 148]) rfl rfl rfl rfl ?_
  show dd_Rn (e + 15) m_X11_in (0, [.int a1, .int 1, .int 120], [], sM Ln (dd_u I 148 (upd (I 148) 0 0)) L c s) _
  refine dd_Rn.ite 2 (c := a1 < 1) (A := (14, [.int a1, .int 1, .int 120], [], sM Ln (dd_u I 148 (upd (I 148) 0 0)) L c s)) (B := (5, [.int a1, .int 1, .int 120], [], sM Ln (dd_u I 148 (upd (I 148) 0 0)) L c s)) rfl (fun hc => ?_) (fun hc => ?_) (by omega)
  · have h := h.1 hc
    refine dd_Rn.retK 1 (pc := 15) (ls := [.int a1, .int 1, .int 120]) (st := [.int 0]) (M := sM Ln (dd_u I 148 (upd (I 148) 0 0)) L c s) (o := (none, .int 0, sM Ln (dd_u I 148 (upd (I 148) 0 0)) L c s)) rfl rfl (dd_Af.ret rfl ?_) (by omega)
    show dd_Rn (e + 16) m_X11_sing (13, [.ref 148, .int a1], [.int 0, .ref 148], sM Ln (dd_u I 148 (upd (I 148) 0 0)) L c s) _
    refine dd_Rn.sub 4 (pc := 22) (ls := [.ref 148, .int a1]) (st := [.int 1, .int 1, .ref 148]) (M := sM Ln (dd_u I 148 (upd (I 148) 0 0)) L c s) (x := m_X11_throwsIf) (as := [.ref 148, .int 1, .int 1]) (rest := []) rfl rfl rfl rfl ?_
    show dd_Rn (e + 15) m_X11_throwsIf (0, [.ref 148, .int 1, .int 1], [], sM Ln (dd_u I 148 (upd (I 148) 0 0)) L c s) _
    refine dd_Rn.retK 6 (pc := 10) (ls := [.ref 148, .int 1, .int 1]) (st := [.int 1]) (M := sM Ln (dd_u (dd_u I 148 (upd (I 148) 0 0)) 148 (upd (upd (I 148) 0 0) 0 1)) L c s) (o := (none, .int 1, sM Ln (dd_u (dd_u I 148 (upd (I 148) 0 0)) 148 (upd (upd (I 148) 0 0) 0 1)) L c s)) rfl rfl (dd_Af.ret rfl ?_) (by omega)
    show dd_Rn (e + 16) m_X11_sing (25, [.ref 148, .int a1], [.int 1], sM Ln (dd_u (dd_u I 148 (upd (I 148) 0 0)) 148 (upd (upd (I 148) 0 0) 0 1)) L c s) _
    exact dd_Rn.retK 2 (pc := 29) (ls := [.ref 148, .int a1]) (st := [.int 0]) (M := sM Ln (dd_u (dd_u I 148 (upd (I 148) 0 0)) 148 (upd (upd (I 148) 0 0) 0 1)) L c s) (o := (none, .int 0, sM Ln (dd_u (dd_u I 148 (upd (I 148) 0 0)) 148 (upd (upd (I 148) 0 0) 0 1)) L c s)) rfl rfl h (by omega)
  · have h := h.2 hc
    refine dd_Rn.ite 2 (c := (120 : Int32) < a1) (A := (14, [.int a1, .int 1, .int 120], [], sM Ln (dd_u I 148 (upd (I 148) 0 0)) L c s)) (B := (10, [.int a1, .int 1, .int 120], [], sM Ln (dd_u I 148 (upd (I 148) 0 0)) L c s)) rfl (fun hc => ?_) (fun hc => ?_) (by omega)
    · have h := h.1 hc
      refine dd_Rn.retK 1 (pc := 15) (ls := [.int a1, .int 1, .int 120]) (st := [.int 0]) (M := sM Ln (dd_u I 148 (upd (I 148) 0 0)) L c s) (o := (none, .int 0, sM Ln (dd_u I 148 (upd (I 148) 0 0)) L c s)) rfl rfl (dd_Af.ret rfl ?_) (by omega)
      show dd_Rn (e + 16) m_X11_sing (13, [.ref 148, .int a1], [.int 0, .ref 148], sM Ln (dd_u I 148 (upd (I 148) 0 0)) L c s) _
      refine dd_Rn.sub 4 (pc := 22) (ls := [.ref 148, .int a1]) (st := [.int 1, .int 1, .ref 148]) (M := sM Ln (dd_u I 148 (upd (I 148) 0 0)) L c s) (x := m_X11_throwsIf) (as := [.ref 148, .int 1, .int 1]) (rest := []) rfl rfl rfl rfl ?_
      show dd_Rn (e + 15) m_X11_throwsIf (0, [.ref 148, .int 1, .int 1], [], sM Ln (dd_u I 148 (upd (I 148) 0 0)) L c s) _
      refine dd_Rn.retK 6 (pc := 10) (ls := [.ref 148, .int 1, .int 1]) (st := [.int 1]) (M := sM Ln (dd_u (dd_u I 148 (upd (I 148) 0 0)) 148 (upd (upd (I 148) 0 0) 0 1)) L c s) (o := (none, .int 1, sM Ln (dd_u (dd_u I 148 (upd (I 148) 0 0)) 148 (upd (upd (I 148) 0 0) 0 1)) L c s)) rfl rfl (dd_Af.ret rfl ?_) (by omega)
      show dd_Rn (e + 16) m_X11_sing (25, [.ref 148, .int a1], [.int 1], sM Ln (dd_u (dd_u I 148 (upd (I 148) 0 0)) 148 (upd (upd (I 148) 0 0) 0 1)) L c s) _
      exact dd_Rn.retK 2 (pc := 29) (ls := [.ref 148, .int a1]) (st := [.int 0]) (M := sM Ln (dd_u (dd_u I 148 (upd (I 148) 0 0)) 148 (upd (upd (I 148) 0 0) 0 1)) L c s) (o := (none, .int 0, sM Ln (dd_u (dd_u I 148 (upd (I 148) 0 0)) 148 (upd (upd (I 148) 0 0) 0 1)) L c s)) rfl rfl h (by omega)
    · have h := h.2 hc
      refine dd_Rn.retK 2 (pc := 15) (ls := [.int a1, .int 1, .int 120]) (st := [.int 1]) (M := sM Ln (dd_u I 148 (upd (I 148) 0 0)) L c s) (o := (none, .int 1, sM Ln (dd_u I 148 (upd (I 148) 0 0)) L c s)) rfl rfl (dd_Af.ret rfl ?_) (by omega)
      show dd_Rn (e + 16) m_X11_sing (13, [.ref 148, .int a1], [.int 1, .ref 148], sM Ln (dd_u I 148 (upd (I 148) 0 0)) L c s) _
      refine dd_Rn.sub 3 (pc := 22) (ls := [.ref 148, .int a1]) (st := [.int 1, .int 0, .ref 148]) (M := sM Ln (dd_u I 148 (upd (I 148) 0 0)) L c s) (x := m_X11_throwsIf) (as := [.ref 148, .int 0, .int 1]) (rest := []) rfl rfl rfl rfl ?_
      show dd_Rn (e + 15) m_X11_throwsIf (0, [.ref 148, .int 0, .int 1], [], sM Ln (dd_u I 148 (upd (I 148) 0 0)) L c s) _
      refine dd_Rn.retK 3 (pc := 10) (ls := [.ref 148, .int 0, .int 1]) (st := [.int 0]) (M := sM Ln (dd_u I 148 (upd (I 148) 0 0)) L c s) (o := (none, .int 0, sM Ln (dd_u I 148 (upd (I 148) 0 0)) L c s)) rfl rfl (dd_Af.ret rfl ?_) (by omega)
      show dd_Rn (e + 16) m_X11_sing (25, [.ref 148, .int a1], [.int 0], sM Ln (dd_u I 148 (upd (I 148) 0 0)) L c s) _
      refine dd_Rn.cV 2 (pc := 31) (ls := [.ref 148, .int a1]) (st := [.ref 148]) (x := m_X11_remembers) (as := [.ref 148]) (rest := []) rfl rfl rfl rfl h ?_
      intro I1 L1 h
      show dd_Rn (e + 16) m_X11_sing (34, [.ref 148, .int a1], [], sM Ln I1 L1 c s) _
      refine dd_Rn.cI 3 (pc := 37) (ls := [.ref 148, .int a1]) (st := [.int 0, .int a1, .ref 148]) (x := m_X11_goesOn) (as := [.ref 148, .int a1, .int 0]) (rest := []) rfl rfl rfl rfl h ?_
      intro x2 I2 L2 h
      show dd_Rn (e + 16) m_X11_sing (40, [.ref 148, .int a1], [.int x2], sM Ln I2 L2 c s) _
      exact dd_Rn.retK 0 (pc := 40) (ls := [.ref 148, .int a1]) (st := [.int x2]) (M := sM Ln I2 L2 c s) (o := (none, .int x2, sM Ln I2 L2 c s)) rfl rfl h (by omega)

theorem w_X11_cell_0 {Ln d c s : Nat} {I : Nat → Nat → Int32} {L : Nat → Nat → Int64} {Q : dd_O → Prop} {a1 a2 : Int32} (hd : 28 ≤ d) (h : ((a1 < 0 → Q (none, .int 0, sM Ln (dd_u (dd_u I 148 (upd (I 148) 0 0)) 148 (upd (upd (I 148) 0 0) 0 1)) L c s)) ∧ (¬ (a1 < 0) → (((63 : Int32) < a1 → Q (none, .int 0, sM Ln (dd_u (dd_u I 148 (upd (I 148) 0 0)) 148 (upd (upd (I 148) 0 0) 0 1)) L c s)) ∧ (¬ ((63 : Int32) < a1) → ((a2 < 0 → Q (none, .int 0, sM Ln (dd_u (dd_u I 148 (upd (I 148) 0 0)) 148 (upd (upd (I 148) 0 0) 0 2)) L c s)) ∧ (¬ (a2 < 0) → (((2 : Int32) < a2 → Q (none, .int 0, sM Ln (dd_u (dd_u I 148 (upd (I 148) 0 0)) 148 (upd (upd (I 148) 0 0) 0 2)) L c s)) ∧ (¬ ((2 : Int32) < a2) → ((a2 = 0 → ((0 ≤ (11 : Int32) + a1 ∧ tn ((11 : Int32) + a1) < 2220) ∧ Q (none, .int (I 149 (tn ((11 : Int32) + a1))), sM Ln (dd_u I 148 (upd (I 148) 0 0)) L c s))) ∧ (¬ (a2 = 0) → ((a2 = 1 → ((0 ≤ (75 : Int32) + a1 ∧ tn ((75 : Int32) + a1) < 2220) ∧ Q (none, .int (I 149 (tn ((75 : Int32) + a1))), sM Ln (dd_u I 148 (upd (I 148) 0 0)) L c s))) ∧ (¬ (a2 = 1) → dd_Ev (d - 1) m_X11_nearOf [.ref 148, .int a1] (sM Ln (dd_u I 148 (upd (I 148) 0 0)) L c s) (dd_RI Ln c s (fun x1 I1 L1 => Q (none, .int x1, sM Ln I1 L1 c s)))))))))))))))) : dd_Ev d m_X11_cell [.ref 148, .int a1, .int a2] (sM Ln I L c s) Q := by
  obtain ⟨e, rfl⟩ : ∃ e, d = e + 16 := ⟨d - 16, by omega⟩
  show dd_Rn (e + 16) m_X11_cell (0, [.ref 148, .int a1, .int a2], [], sM Ln I L c s) Q
  refine dd_Rn.sub 5 (pc := 7) (ls := [.ref 148, .int a1, .int a2]) (st := [.int a1, .ref 148]) (M := sM Ln (dd_u I 148 (upd (I 148) 0 0)) L c s) (x := m_X11_noCell) (as := [.int a1]) (rest := [.ref 148]) rfl rfl rfl rfl ?_
  show dd_Rn (e + 15) m_X11_noCell (0, [.int a1], [], sM Ln (dd_u I 148 (upd (I 148) 0 0)) L c s) _
  refine dd_Rn.sub 3 (pc := 4) (ls := [.int a1]) (st := [.int 63, .int 0, .int a1]) (M := sM Ln (dd_u I 148 (upd (I 148) 0 0)) L c s) (x := m_X11_in) (as := [.int a1, .int 0, .int 63]) (rest := []) rfl rfl rfl rfl ?_
  show dd_Rn (e + 14) m_X11_in (0, [.int a1, .int 0, .int 63], [], sM Ln (dd_u I 148 (upd (I 148) 0 0)) L c s) _
  refine dd_Rn.ite 2 (c := a1 < 0) (A := (14, [.int a1, .int 0, .int 63], [], sM Ln (dd_u I 148 (upd (I 148) 0 0)) L c s)) (B := (5, [.int a1, .int 0, .int 63], [], sM Ln (dd_u I 148 (upd (I 148) 0 0)) L c s)) rfl (fun hc => ?_) (fun hc => ?_) (by omega)
  · have h := h.1 hc
    refine dd_Rn.retK 1 (pc := 15) (ls := [.int a1, .int 0, .int 63]) (st := [.int 0]) (M := sM Ln (dd_u I 148 (upd (I 148) 0 0)) L c s) (o := (none, .int 0, sM Ln (dd_u I 148 (upd (I 148) 0 0)) L c s)) rfl rfl (dd_Af.ret rfl ?_) (by omega)
    show dd_Rn (e + 15) m_X11_noCell (7, [.int a1], [.int 0], sM Ln (dd_u I 148 (upd (I 148) 0 0)) L c s) _
    refine dd_Rn.retK 3 (pc := 15) (ls := [.int a1]) (st := [.int 1]) (M := sM Ln (dd_u I 148 (upd (I 148) 0 0)) L c s) (o := (none, .int 1, sM Ln (dd_u I 148 (upd (I 148) 0 0)) L c s)) rfl rfl (dd_Af.ret rfl ?_) (by omega)
    show dd_Rn (e + 16) m_X11_cell (10, [.ref 148, .int a1, .int a2], [.int 1, .ref 148], sM Ln (dd_u I 148 (upd (I 148) 0 0)) L c s) _
    refine dd_Rn.sub 1 (pc := 11) (ls := [.ref 148, .int a1, .int a2]) (st := [.int 1, .int 1, .ref 148]) (M := sM Ln (dd_u I 148 (upd (I 148) 0 0)) L c s) (x := m_X11_throwsIf) (as := [.ref 148, .int 1, .int 1]) (rest := []) rfl rfl rfl rfl ?_
    show dd_Rn (e + 15) m_X11_throwsIf (0, [.ref 148, .int 1, .int 1], [], sM Ln (dd_u I 148 (upd (I 148) 0 0)) L c s) _
    refine dd_Rn.retK 6 (pc := 10) (ls := [.ref 148, .int 1, .int 1]) (st := [.int 1]) (M := sM Ln (dd_u (dd_u I 148 (upd (I 148) 0 0)) 148 (upd (upd (I 148) 0 0) 0 1)) L c s) (o := (none, .int 1, sM Ln (dd_u (dd_u I 148 (upd (I 148) 0 0)) 148 (upd (upd (I 148) 0 0) 0 1)) L c s)) rfl rfl (dd_Af.ret rfl ?_) (by omega)
    show dd_Rn (e + 16) m_X11_cell (14, [.ref 148, .int a1, .int a2], [.int 1], sM Ln (dd_u (dd_u I 148 (upd (I 148) 0 0)) 148 (upd (upd (I 148) 0 0) 0 1)) L c s) _
    exact dd_Rn.retK 2 (pc := 40) (ls := [.ref 148, .int a1, .int a2]) (st := [.int 0]) (M := sM Ln (dd_u (dd_u I 148 (upd (I 148) 0 0)) 148 (upd (upd (I 148) 0 0) 0 1)) L c s) (o := (none, .int 0, sM Ln (dd_u (dd_u I 148 (upd (I 148) 0 0)) 148 (upd (upd (I 148) 0 0) 0 1)) L c s)) rfl rfl h (by omega)
  · have h := h.2 hc
    refine dd_Rn.ite 2 (c := (63 : Int32) < a1) (A := (14, [.int a1, .int 0, .int 63], [], sM Ln (dd_u I 148 (upd (I 148) 0 0)) L c s)) (B := (10, [.int a1, .int 0, .int 63], [], sM Ln (dd_u I 148 (upd (I 148) 0 0)) L c s)) rfl (fun hc => ?_) (fun hc => ?_) (by omega)
    · have h := h.1 hc
      refine dd_Rn.retK 1 (pc := 15) (ls := [.int a1, .int 0, .int 63]) (st := [.int 0]) (M := sM Ln (dd_u I 148 (upd (I 148) 0 0)) L c s) (o := (none, .int 0, sM Ln (dd_u I 148 (upd (I 148) 0 0)) L c s)) rfl rfl (dd_Af.ret rfl ?_) (by omega)
      show dd_Rn (e + 15) m_X11_noCell (7, [.int a1], [.int 0], sM Ln (dd_u I 148 (upd (I 148) 0 0)) L c s) _
      refine dd_Rn.retK 3 (pc := 15) (ls := [.int a1]) (st := [.int 1]) (M := sM Ln (dd_u I 148 (upd (I 148) 0 0)) L c s) (o := (none, .int 1, sM Ln (dd_u I 148 (upd (I 148) 0 0)) L c s)) rfl rfl (dd_Af.ret rfl ?_) (by omega)
      show dd_Rn (e + 16) m_X11_cell (10, [.ref 148, .int a1, .int a2], [.int 1, .ref 148], sM Ln (dd_u I 148 (upd (I 148) 0 0)) L c s) _
      refine dd_Rn.sub 1 (pc := 11) (ls := [.ref 148, .int a1, .int a2]) (st := [.int 1, .int 1, .ref 148]) (M := sM Ln (dd_u I 148 (upd (I 148) 0 0)) L c s) (x := m_X11_throwsIf) (as := [.ref 148, .int 1, .int 1]) (rest := []) rfl rfl rfl rfl ?_
      show dd_Rn (e + 15) m_X11_throwsIf (0, [.ref 148, .int 1, .int 1], [], sM Ln (dd_u I 148 (upd (I 148) 0 0)) L c s) _
      refine dd_Rn.retK 6 (pc := 10) (ls := [.ref 148, .int 1, .int 1]) (st := [.int 1]) (M := sM Ln (dd_u (dd_u I 148 (upd (I 148) 0 0)) 148 (upd (upd (I 148) 0 0) 0 1)) L c s) (o := (none, .int 1, sM Ln (dd_u (dd_u I 148 (upd (I 148) 0 0)) 148 (upd (upd (I 148) 0 0) 0 1)) L c s)) rfl rfl (dd_Af.ret rfl ?_) (by omega)
      show dd_Rn (e + 16) m_X11_cell (14, [.ref 148, .int a1, .int a2], [.int 1], sM Ln (dd_u (dd_u I 148 (upd (I 148) 0 0)) 148 (upd (upd (I 148) 0 0) 0 1)) L c s) _
      exact dd_Rn.retK 2 (pc := 40) (ls := [.ref 148, .int a1, .int a2]) (st := [.int 0]) (M := sM Ln (dd_u (dd_u I 148 (upd (I 148) 0 0)) 148 (upd (upd (I 148) 0 0) 0 1)) L c s) (o := (none, .int 0, sM Ln (dd_u (dd_u I 148 (upd (I 148) 0 0)) 148 (upd (upd (I 148) 0 0) 0 1)) L c s)) rfl rfl h (by omega)
    · have h := h.2 hc
      refine dd_Rn.retK 2 (pc := 15) (ls := [.int a1, .int 0, .int 63]) (st := [.int 1]) (M := sM Ln (dd_u I 148 (upd (I 148) 0 0)) L c s) (o := (none, .int 1, sM Ln (dd_u I 148 (upd (I 148) 0 0)) L c s)) rfl rfl (dd_Af.ret rfl ?_) (by omega)
      show dd_Rn (e + 15) m_X11_noCell (7, [.int a1], [.int 1], sM Ln (dd_u I 148 (upd (I 148) 0 0)) L c s) _
      refine dd_Rn.retK 2 (pc := 15) (ls := [.int a1]) (st := [.int 0]) (M := sM Ln (dd_u I 148 (upd (I 148) 0 0)) L c s) (o := (none, .int 0, sM Ln (dd_u I 148 (upd (I 148) 0 0)) L c s)) rfl rfl (dd_Af.ret rfl ?_) (by omega)
      show dd_Rn (e + 16) m_X11_cell (10, [.ref 148, .int a1, .int a2], [.int 0, .ref 148], sM Ln (dd_u I 148 (upd (I 148) 0 0)) L c s) _
      refine dd_Rn.sub 1 (pc := 11) (ls := [.ref 148, .int a1, .int a2]) (st := [.int 1, .int 0, .ref 148]) (M := sM Ln (dd_u I 148 (upd (I 148) 0 0)) L c s) (x := m_X11_throwsIf) (as := [.ref 148, .int 0, .int 1]) (rest := []) rfl rfl rfl rfl ?_
      show dd_Rn (e + 15) m_X11_throwsIf (0, [.ref 148, .int 0, .int 1], [], sM Ln (dd_u I 148 (upd (I 148) 0 0)) L c s) _
      refine dd_Rn.retK 3 (pc := 10) (ls := [.ref 148, .int 0, .int 1]) (st := [.int 0]) (M := sM Ln (dd_u I 148 (upd (I 148) 0 0)) L c s) (o := (none, .int 0, sM Ln (dd_u I 148 (upd (I 148) 0 0)) L c s)) rfl rfl (dd_Af.ret rfl ?_) (by omega)
      show dd_Rn (e + 16) m_X11_cell (14, [.ref 148, .int a1, .int a2], [.int 0], sM Ln (dd_u I 148 (upd (I 148) 0 0)) L c s) _
      refine dd_Rn.sub 5 (pc := 21) (ls := [.ref 148, .int a1, .int a2]) (st := [.int 2, .int 0, .int a2, .ref 148]) (M := sM Ln (dd_u I 148 (upd (I 148) 0 0)) L c s) (x := m_X11_in) (as := [.int a2, .int 0, .int 2]) (rest := [.ref 148]) rfl rfl rfl rfl ?_
      show dd_Rn (e + 15) m_X11_in (0, [.int a2, .int 0, .int 2], [], sM Ln (dd_u I 148 (upd (I 148) 0 0)) L c s) _
      refine dd_Rn.ite 2 (c := a2 < 0) (A := (14, [.int a2, .int 0, .int 2], [], sM Ln (dd_u I 148 (upd (I 148) 0 0)) L c s)) (B := (5, [.int a2, .int 0, .int 2], [], sM Ln (dd_u I 148 (upd (I 148) 0 0)) L c s)) rfl (fun hc => ?_) (fun hc => ?_) (by omega)
      · have h := h.1 hc
        refine dd_Rn.retK 1 (pc := 15) (ls := [.int a2, .int 0, .int 2]) (st := [.int 0]) (M := sM Ln (dd_u I 148 (upd (I 148) 0 0)) L c s) (o := (none, .int 0, sM Ln (dd_u I 148 (upd (I 148) 0 0)) L c s)) rfl rfl (dd_Af.ret rfl ?_) (by omega)
        show dd_Rn (e + 16) m_X11_cell (24, [.ref 148, .int a1, .int a2], [.int 0, .ref 148], sM Ln (dd_u I 148 (upd (I 148) 0 0)) L c s) _
        refine dd_Rn.sub 4 (pc := 33) (ls := [.ref 148, .int a1, .int a2]) (st := [.int 2, .int 1, .ref 148]) (M := sM Ln (dd_u I 148 (upd (I 148) 0 0)) L c s) (x := m_X11_throwsIf) (as := [.ref 148, .int 1, .int 2]) (rest := []) rfl rfl rfl rfl ?_
        show dd_Rn (e + 15) m_X11_throwsIf (0, [.ref 148, .int 1, .int 2], [], sM Ln (dd_u I 148 (upd (I 148) 0 0)) L c s) _
        refine dd_Rn.retK 6 (pc := 10) (ls := [.ref 148, .int 1, .int 2]) (st := [.int 1]) (M := sM Ln (dd_u (dd_u I 148 (upd (I 148) 0 0)) 148 (upd (upd (I 148) 0 0) 0 2)) L c s) (o := (none, .int 1, sM Ln (dd_u (dd_u I 148 (upd (I 148) 0 0)) 148 (upd (upd (I 148) 0 0) 0 2)) L c s)) rfl rfl (dd_Af.ret rfl ?_) (by omega)
        show dd_Rn (e + 16) m_X11_cell (36, [.ref 148, .int a1, .int a2], [.int 1], sM Ln (dd_u (dd_u I 148 (upd (I 148) 0 0)) 148 (upd (upd (I 148) 0 0) 0 2)) L c s) _
        exact dd_Rn.retK 2 (pc := 40) (ls := [.ref 148, .int a1, .int a2]) (st := [.int 0]) (M := sM Ln (dd_u (dd_u I 148 (upd (I 148) 0 0)) 148 (upd (upd (I 148) 0 0) 0 2)) L c s) (o := (none, .int 0, sM Ln (dd_u (dd_u I 148 (upd (I 148) 0 0)) 148 (upd (upd (I 148) 0 0) 0 2)) L c s)) rfl rfl h (by omega)
      · have h := h.2 hc
        refine dd_Rn.ite 2 (c := (2 : Int32) < a2) (A := (14, [.int a2, .int 0, .int 2], [], sM Ln (dd_u I 148 (upd (I 148) 0 0)) L c s)) (B := (10, [.int a2, .int 0, .int 2], [], sM Ln (dd_u I 148 (upd (I 148) 0 0)) L c s)) rfl (fun hc => ?_) (fun hc => ?_) (by omega)
        · have h := h.1 hc
          refine dd_Rn.retK 1 (pc := 15) (ls := [.int a2, .int 0, .int 2]) (st := [.int 0]) (M := sM Ln (dd_u I 148 (upd (I 148) 0 0)) L c s) (o := (none, .int 0, sM Ln (dd_u I 148 (upd (I 148) 0 0)) L c s)) rfl rfl (dd_Af.ret rfl ?_) (by omega)
          show dd_Rn (e + 16) m_X11_cell (24, [.ref 148, .int a1, .int a2], [.int 0, .ref 148], sM Ln (dd_u I 148 (upd (I 148) 0 0)) L c s) _
          refine dd_Rn.sub 4 (pc := 33) (ls := [.ref 148, .int a1, .int a2]) (st := [.int 2, .int 1, .ref 148]) (M := sM Ln (dd_u I 148 (upd (I 148) 0 0)) L c s) (x := m_X11_throwsIf) (as := [.ref 148, .int 1, .int 2]) (rest := []) rfl rfl rfl rfl ?_
          show dd_Rn (e + 15) m_X11_throwsIf (0, [.ref 148, .int 1, .int 2], [], sM Ln (dd_u I 148 (upd (I 148) 0 0)) L c s) _
          refine dd_Rn.retK 6 (pc := 10) (ls := [.ref 148, .int 1, .int 2]) (st := [.int 1]) (M := sM Ln (dd_u (dd_u I 148 (upd (I 148) 0 0)) 148 (upd (upd (I 148) 0 0) 0 2)) L c s) (o := (none, .int 1, sM Ln (dd_u (dd_u I 148 (upd (I 148) 0 0)) 148 (upd (upd (I 148) 0 0) 0 2)) L c s)) rfl rfl (dd_Af.ret rfl ?_) (by omega)
          show dd_Rn (e + 16) m_X11_cell (36, [.ref 148, .int a1, .int a2], [.int 1], sM Ln (dd_u (dd_u I 148 (upd (I 148) 0 0)) 148 (upd (upd (I 148) 0 0) 0 2)) L c s) _
          exact dd_Rn.retK 2 (pc := 40) (ls := [.ref 148, .int a1, .int a2]) (st := [.int 0]) (M := sM Ln (dd_u (dd_u I 148 (upd (I 148) 0 0)) 148 (upd (upd (I 148) 0 0) 0 2)) L c s) (o := (none, .int 0, sM Ln (dd_u (dd_u I 148 (upd (I 148) 0 0)) 148 (upd (upd (I 148) 0 0) 0 2)) L c s)) rfl rfl h (by omega)
        · have h := h.2 hc
          refine dd_Rn.retK 2 (pc := 15) (ls := [.int a2, .int 0, .int 2]) (st := [.int 1]) (M := sM Ln (dd_u I 148 (upd (I 148) 0 0)) L c s) (o := (none, .int 1, sM Ln (dd_u I 148 (upd (I 148) 0 0)) L c s)) rfl rfl (dd_Af.ret rfl ?_) (by omega)
          show dd_Rn (e + 16) m_X11_cell (24, [.ref 148, .int a1, .int a2], [.int 1, .ref 148], sM Ln (dd_u I 148 (upd (I 148) 0 0)) L c s) _
          refine dd_Rn.sub 3 (pc := 33) (ls := [.ref 148, .int a1, .int a2]) (st := [.int 2, .int 0, .ref 148]) (M := sM Ln (dd_u I 148 (upd (I 148) 0 0)) L c s) (x := m_X11_throwsIf) (as := [.ref 148, .int 0, .int 2]) (rest := []) rfl rfl rfl rfl ?_
          show dd_Rn (e + 15) m_X11_throwsIf (0, [.ref 148, .int 0, .int 2], [], sM Ln (dd_u I 148 (upd (I 148) 0 0)) L c s) _
          refine dd_Rn.retK 3 (pc := 10) (ls := [.ref 148, .int 0, .int 2]) (st := [.int 0]) (M := sM Ln (dd_u I 148 (upd (I 148) 0 0)) L c s) (o := (none, .int 0, sM Ln (dd_u I 148 (upd (I 148) 0 0)) L c s)) rfl rfl (dd_Af.ret rfl ?_) (by omega)
          show dd_Rn (e + 16) m_X11_cell (36, [.ref 148, .int a1, .int a2], [.int 0], sM Ln (dd_u I 148 (upd (I 148) 0 0)) L c s) _
          refine dd_Rn.ite 2 (c := a2 = 0) (A := (45, [.ref 148, .int a1, .int a2], [], sM Ln (dd_u I 148 (upd (I 148) 0 0)) L c s)) (B := (57, [.ref 148, .int a1, .int a2], [], sM Ln (dd_u I 148 (upd (I 148) 0 0)) L c s)) rfl (fun hc => ?_) (fun hc => ?_) (by omega)
          · have h := h.1 hc
            obtain ⟨hc, h⟩ := h
            refine dd_Rn.go 5 (cf' := (53, [.ref 148, .int a1, .int a2], [.int ((11 : Int32) + a1), .ref 149], sM Ln (dd_u I 148 (upd (I 148) 0 0)) L c s)) rfl ?_ (by omega)
            refine dd_Rn.ci (fun j0 => (53, [.ref 148, .int a1, .int a2], [.int j0, .ref 149], sM Ln (dd_u I 148 (upd (I 148) 0 0)) L c s)) (fun j0 => (54, [.ref 148, .int a1, .int a2], [.int (I 149 (tn j0))], sM Ln (dd_u I 148 (upd (I 148) 0 0)) L c s)) (fun j0 => 0 ≤ j0 ∧ tn j0 < 2220) ((11 : Int32) + a1) (fun j0 hc h => dd_Rn.chk 0 (c := 0 ≤ j0 ∧ tn j0 < 2220) (A := (54, [.ref 148, .int a1, .int a2], [.int (I 149 (tn j0))], sM Ln (dd_u I 148 (upd (I 148) 0 0)) L c s)) rfl hc h (by omega)) hc ?_
            refine dd_Rn.se (cf := (54, [.ref 148, .int a1, .int a2], [.int (I 149 (tn ((11 : Int32) + a1)))], sM Ln (dd_u I 148 (upd (I 148) 0 0)) L c s)) ?_
            exact dd_Rn.retK 1 (pc := 79) (ls := [.ref 148, .int a1, .int a2]) (st := [.int (I 149 (tn ((11 : Int32) + a1)))]) (M := sM Ln (dd_u I 148 (upd (I 148) 0 0)) L c s) (o := (none, .int (I 149 (tn ((11 : Int32) + a1))), sM Ln (dd_u I 148 (upd (I 148) 0 0)) L c s)) rfl rfl h (by omega)
          · have h := h.2 hc
            refine dd_Rn.ite 2 (c := a2 = 1) (A := (62, [.ref 148, .int a1, .int a2], [], sM Ln (dd_u I 148 (upd (I 148) 0 0)) L c s)) (B := (74, [.ref 148, .int a1, .int a2], [], sM Ln (dd_u I 148 (upd (I 148) 0 0)) L c s)) rfl (fun hc => ?_) (fun hc => ?_) (by omega)
            · have h := h.1 hc
              obtain ⟨hc, h⟩ := h
              refine dd_Rn.go 5 (cf' := (70, [.ref 148, .int a1, .int a2], [.int ((75 : Int32) + a1), .ref 149], sM Ln (dd_u I 148 (upd (I 148) 0 0)) L c s)) rfl ?_ (by omega)
              refine dd_Rn.ci (fun j0 => (70, [.ref 148, .int a1, .int a2], [.int j0, .ref 149], sM Ln (dd_u I 148 (upd (I 148) 0 0)) L c s)) (fun j0 => (71, [.ref 148, .int a1, .int a2], [.int (I 149 (tn j0))], sM Ln (dd_u I 148 (upd (I 148) 0 0)) L c s)) (fun j0 => 0 ≤ j0 ∧ tn j0 < 2220) ((75 : Int32) + a1) (fun j0 hc h => dd_Rn.chk 0 (c := 0 ≤ j0 ∧ tn j0 < 2220) (A := (71, [.ref 148, .int a1, .int a2], [.int (I 149 (tn j0))], sM Ln (dd_u I 148 (upd (I 148) 0 0)) L c s)) rfl hc h (by omega)) hc ?_
              refine dd_Rn.se (cf := (71, [.ref 148, .int a1, .int a2], [.int (I 149 (tn ((75 : Int32) + a1)))], sM Ln (dd_u I 148 (upd (I 148) 0 0)) L c s)) ?_
              exact dd_Rn.retK 1 (pc := 79) (ls := [.ref 148, .int a1, .int a2]) (st := [.int (I 149 (tn ((75 : Int32) + a1)))]) (M := sM Ln (dd_u I 148 (upd (I 148) 0 0)) L c s) (o := (none, .int (I 149 (tn ((75 : Int32) + a1))), sM Ln (dd_u I 148 (upd (I 148) 0 0)) L c s)) rfl rfl h (by omega)
            · have h := h.2 hc
              refine dd_Rn.cI 2 (pc := 76) (ls := [.ref 148, .int a1, .int a2]) (st := [.int a1, .ref 148]) (x := m_X11_nearOf) (as := [.ref 148, .int a1]) (rest := []) rfl rfl rfl rfl h ?_
              intro x1 I1 L1 h
              show dd_Rn (e + 16) m_X11_cell (79, [.ref 148, .int a1, .int a2], [.int x1], sM Ln I1 L1 c s) _
              exact dd_Rn.retK 0 (pc := 79) (ls := [.ref 148, .int a1, .int a2]) (st := [.int x1]) (M := sM Ln I1 L1 c s) (o := (none, .int x1, sM Ln I1 L1 c s)) rfl rfl h (by omega)

theorem w_X11_note_0 {Ln d c s : Nat} {I : Nat → Nat → Int32} {L : Nat → Nat → Int64} {Q : dd_O → Prop} {a1 a2 : Int32} (hd : 28 ≤ d) (h : ((a1 < 0 → Q (none, .int 0, sM Ln (dd_u (dd_u I 148 (upd (I 148) 0 0)) 148 (upd (upd (I 148) 0 0) 0 1)) L c s)) ∧ (¬ (a1 < 0) → (((I 149 0) - 1 < a1 → Q (none, .int 0, sM Ln (dd_u (dd_u I 148 (upd (I 148) 0 0)) 148 (upd (upd (I 148) 0 0) 0 1)) L c s)) ∧ (¬ ((I 149 0) - 1 < a1) → ((a2 < 0 → Q (none, .int 0, sM Ln (dd_u (dd_u I 148 (upd (I 148) 0 0)) 148 (upd (upd (I 148) 0 0) 0 1)) L c s)) ∧ (¬ (a2 < 0) → (((7 : Int32) < a2 → Q (none, .int 0, sM Ln (dd_u (dd_u I 148 (upd (I 148) 0 0)) 148 (upd (upd (I 148) 0 0) 0 1)) L c s)) ∧ (¬ ((7 : Int32) < a2) → ((0 ≤ ((139 : Int32) + ((8 : Int32) * a1)) + a2 ∧ tn (((139 : Int32) + ((8 : Int32) * a1)) + a2) < 2220) ∧ Q (none, .int (I 149 (tn (((139 : Int32) + ((8 : Int32) * a1)) + a2))), sM Ln (dd_u I 148 (upd (I 148) 0 0)) L c s))))))))))) : dd_Ev d m_X11_note [.ref 148, .int a1, .int a2] (sM Ln I L c s) Q := by
  obtain ⟨e, rfl⟩ : ∃ e, d = e + 16 := ⟨d - 16, by omega⟩
  show dd_Rn (e + 16) m_X11_note (0, [.ref 148, .int a1, .int a2], [], sM Ln I L c s) Q
  refine dd_Rn.sub 6 (pc := 8) (ls := [.ref 148, .int a1, .int a2]) (st := [.int a1, .ref 148, .ref 148]) (M := sM Ln (dd_u I 148 (upd (I 148) 0 0)) L c s) (x := m_X11_noPart) (as := [.ref 148, .int a1]) (rest := [.ref 148]) rfl rfl rfl rfl ?_
  show dd_Rn (e + 15) m_X11_noPart (0, [.ref 148, .int a1], [], sM Ln (dd_u I 148 (upd (I 148) 0 0)) L c s) _
  refine dd_Rn.sub 3 (pc := 3) (ls := [.ref 148, .int a1]) (st := [.ref 148, .int 0, .int a1]) (M := sM Ln (dd_u I 148 (upd (I 148) 0 0)) L c s) (x := m_X11_parts) (as := [.ref 148]) (rest := [.int 0, .int a1]) rfl rfl rfl rfl ?_
  show dd_Rn (e + 14) m_X11_parts (0, [.ref 148], [], sM Ln (dd_u I 148 (upd (I 148) 0 0)) L c s) _
  refine dd_Rn.retK 4 (pc := 6) (ls := [.ref 148]) (st := [.int (I 149 0)]) (M := sM Ln (dd_u I 148 (upd (I 148) 0 0)) L c s) (o := (none, .int (I 149 0), sM Ln (dd_u I 148 (upd (I 148) 0 0)) L c s)) rfl rfl (dd_Af.ret rfl ?_) (by omega)
  show dd_Rn (e + 15) m_X11_noPart (6, [.ref 148, .int a1], [.int (I 149 0), .int 0, .int a1], sM Ln (dd_u I 148 (upd (I 148) 0 0)) L c s) _
  refine dd_Rn.sub 2 (pc := 8) (ls := [.ref 148, .int a1]) (st := [.int ((I 149 0) - 1), .int 0, .int a1]) (M := sM Ln (dd_u I 148 (upd (I 148) 0 0)) L c s) (x := m_X11_in) (as := [.int a1, .int 0, .int ((I 149 0) - 1)]) (rest := []) rfl rfl rfl rfl ?_
  show dd_Rn (e + 14) m_X11_in (0, [.int a1, .int 0, .int ((I 149 0) - 1)], [], sM Ln (dd_u I 148 (upd (I 148) 0 0)) L c s) _
  refine dd_Rn.ite 2 (c := a1 < 0) (A := (14, [.int a1, .int 0, .int ((I 149 0) - 1)], [], sM Ln (dd_u I 148 (upd (I 148) 0 0)) L c s)) (B := (5, [.int a1, .int 0, .int ((I 149 0) - 1)], [], sM Ln (dd_u I 148 (upd (I 148) 0 0)) L c s)) rfl (fun hc => ?_) (fun hc => ?_) (by omega)
  · have h := h.1 hc
    refine dd_Rn.retK 1 (pc := 15) (ls := [.int a1, .int 0, .int ((I 149 0) - 1)]) (st := [.int 0]) (M := sM Ln (dd_u I 148 (upd (I 148) 0 0)) L c s) (o := (none, .int 0, sM Ln (dd_u I 148 (upd (I 148) 0 0)) L c s)) rfl rfl (dd_Af.ret rfl ?_) (by omega)
    show dd_Rn (e + 15) m_X11_noPart (11, [.ref 148, .int a1], [.int 0], sM Ln (dd_u I 148 (upd (I 148) 0 0)) L c s) _
    refine dd_Rn.retK 3 (pc := 19) (ls := [.ref 148, .int a1]) (st := [.int 1]) (M := sM Ln (dd_u I 148 (upd (I 148) 0 0)) L c s) (o := (none, .int 1, sM Ln (dd_u I 148 (upd (I 148) 0 0)) L c s)) rfl rfl (dd_Af.ret rfl ?_) (by omega)
    show dd_Rn (e + 16) m_X11_note (11, [.ref 148, .int a1, .int a2], [.int 1, .ref 148], sM Ln (dd_u I 148 (upd (I 148) 0 0)) L c s) _
    refine dd_Rn.sub 4 (pc := 27) (ls := [.ref 148, .int a1, .int a2]) (st := [.int 1, .int 1, .ref 148]) (M := sM Ln (dd_u I 148 (upd (I 148) 0 0)) L c s) (x := m_X11_throwsIf) (as := [.ref 148, .int 1, .int 1]) (rest := []) rfl rfl rfl rfl ?_
    show dd_Rn (e + 15) m_X11_throwsIf (0, [.ref 148, .int 1, .int 1], [], sM Ln (dd_u I 148 (upd (I 148) 0 0)) L c s) _
    refine dd_Rn.retK 6 (pc := 10) (ls := [.ref 148, .int 1, .int 1]) (st := [.int 1]) (M := sM Ln (dd_u (dd_u I 148 (upd (I 148) 0 0)) 148 (upd (upd (I 148) 0 0) 0 1)) L c s) (o := (none, .int 1, sM Ln (dd_u (dd_u I 148 (upd (I 148) 0 0)) 148 (upd (upd (I 148) 0 0) 0 1)) L c s)) rfl rfl (dd_Af.ret rfl ?_) (by omega)
    show dd_Rn (e + 16) m_X11_note (30, [.ref 148, .int a1, .int a2], [.int 1], sM Ln (dd_u (dd_u I 148 (upd (I 148) 0 0)) 148 (upd (upd (I 148) 0 0) 0 1)) L c s) _
    exact dd_Rn.retK 3 (pc := 47) (ls := [.ref 148, .int a1, .int a2]) (st := [.int 0]) (M := sM Ln (dd_u (dd_u I 148 (upd (I 148) 0 0)) 148 (upd (upd (I 148) 0 0) 0 1)) L c s) (o := (none, .int 0, sM Ln (dd_u (dd_u I 148 (upd (I 148) 0 0)) 148 (upd (upd (I 148) 0 0) 0 1)) L c s)) rfl rfl h (by omega)
  · have h := h.2 hc
    refine dd_Rn.ite 2 (c := (I 149 0) - 1 < a1) (A := (14, [.int a1, .int 0, .int ((I 149 0) - 1)], [], sM Ln (dd_u I 148 (upd (I 148) 0 0)) L c s)) (B := (10, [.int a1, .int 0, .int ((I 149 0) - 1)], [], sM Ln (dd_u I 148 (upd (I 148) 0 0)) L c s)) rfl (fun hc => ?_) (fun hc => ?_) (by omega)
    · have h := h.1 hc
      refine dd_Rn.retK 1 (pc := 15) (ls := [.int a1, .int 0, .int ((I 149 0) - 1)]) (st := [.int 0]) (M := sM Ln (dd_u I 148 (upd (I 148) 0 0)) L c s) (o := (none, .int 0, sM Ln (dd_u I 148 (upd (I 148) 0 0)) L c s)) rfl rfl (dd_Af.ret rfl ?_) (by omega)
      show dd_Rn (e + 15) m_X11_noPart (11, [.ref 148, .int a1], [.int 0], sM Ln (dd_u I 148 (upd (I 148) 0 0)) L c s) _
      refine dd_Rn.retK 3 (pc := 19) (ls := [.ref 148, .int a1]) (st := [.int 1]) (M := sM Ln (dd_u I 148 (upd (I 148) 0 0)) L c s) (o := (none, .int 1, sM Ln (dd_u I 148 (upd (I 148) 0 0)) L c s)) rfl rfl (dd_Af.ret rfl ?_) (by omega)
      show dd_Rn (e + 16) m_X11_note (11, [.ref 148, .int a1, .int a2], [.int 1, .ref 148], sM Ln (dd_u I 148 (upd (I 148) 0 0)) L c s) _
      refine dd_Rn.sub 4 (pc := 27) (ls := [.ref 148, .int a1, .int a2]) (st := [.int 1, .int 1, .ref 148]) (M := sM Ln (dd_u I 148 (upd (I 148) 0 0)) L c s) (x := m_X11_throwsIf) (as := [.ref 148, .int 1, .int 1]) (rest := []) rfl rfl rfl rfl ?_
      show dd_Rn (e + 15) m_X11_throwsIf (0, [.ref 148, .int 1, .int 1], [], sM Ln (dd_u I 148 (upd (I 148) 0 0)) L c s) _
      refine dd_Rn.retK 6 (pc := 10) (ls := [.ref 148, .int 1, .int 1]) (st := [.int 1]) (M := sM Ln (dd_u (dd_u I 148 (upd (I 148) 0 0)) 148 (upd (upd (I 148) 0 0) 0 1)) L c s) (o := (none, .int 1, sM Ln (dd_u (dd_u I 148 (upd (I 148) 0 0)) 148 (upd (upd (I 148) 0 0) 0 1)) L c s)) rfl rfl (dd_Af.ret rfl ?_) (by omega)
      show dd_Rn (e + 16) m_X11_note (30, [.ref 148, .int a1, .int a2], [.int 1], sM Ln (dd_u (dd_u I 148 (upd (I 148) 0 0)) 148 (upd (upd (I 148) 0 0) 0 1)) L c s) _
      exact dd_Rn.retK 3 (pc := 47) (ls := [.ref 148, .int a1, .int a2]) (st := [.int 0]) (M := sM Ln (dd_u (dd_u I 148 (upd (I 148) 0 0)) 148 (upd (upd (I 148) 0 0) 0 1)) L c s) (o := (none, .int 0, sM Ln (dd_u (dd_u I 148 (upd (I 148) 0 0)) 148 (upd (upd (I 148) 0 0) 0 1)) L c s)) rfl rfl h (by omega)
    · have h := h.2 hc
      refine dd_Rn.retK 2 (pc := 15) (ls := [.int a1, .int 0, .int ((I 149 0) - 1)]) (st := [.int 1]) (M := sM Ln (dd_u I 148 (upd (I 148) 0 0)) L c s) (o := (none, .int 1, sM Ln (dd_u I 148 (upd (I 148) 0 0)) L c s)) rfl rfl (dd_Af.ret rfl ?_) (by omega)
      show dd_Rn (e + 15) m_X11_noPart (11, [.ref 148, .int a1], [.int 1], sM Ln (dd_u I 148 (upd (I 148) 0 0)) L c s) _
      refine dd_Rn.retK 2 (pc := 19) (ls := [.ref 148, .int a1]) (st := [.int 0]) (M := sM Ln (dd_u I 148 (upd (I 148) 0 0)) L c s) (o := (none, .int 0, sM Ln (dd_u I 148 (upd (I 148) 0 0)) L c s)) rfl rfl (dd_Af.ret rfl ?_) (by omega)
      show dd_Rn (e + 16) m_X11_note (11, [.ref 148, .int a1, .int a2], [.int 0, .ref 148], sM Ln (dd_u I 148 (upd (I 148) 0 0)) L c s) _
      refine dd_Rn.sub 2 (pc := 15) (ls := [.ref 148, .int a1, .int a2]) (st := [.int a2, .ref 148]) (M := sM Ln (dd_u I 148 (upd (I 148) 0 0)) L c s) (x := m_X11_noBeat) (as := [.int a2]) (rest := [.ref 148]) rfl rfl rfl rfl ?_
      show dd_Rn (e + 15) m_X11_noBeat (0, [.int a2], [], sM Ln (dd_u I 148 (upd (I 148) 0 0)) L c s) _
      refine dd_Rn.sub 3 (pc := 4) (ls := [.int a2]) (st := [.int 7, .int 0, .int a2]) (M := sM Ln (dd_u I 148 (upd (I 148) 0 0)) L c s) (x := m_X11_in) (as := [.int a2, .int 0, .int 7]) (rest := []) rfl rfl rfl rfl ?_
      show dd_Rn (e + 14) m_X11_in (0, [.int a2, .int 0, .int 7], [], sM Ln (dd_u I 148 (upd (I 148) 0 0)) L c s) _
      refine dd_Rn.ite 2 (c := a2 < 0) (A := (14, [.int a2, .int 0, .int 7], [], sM Ln (dd_u I 148 (upd (I 148) 0 0)) L c s)) (B := (5, [.int a2, .int 0, .int 7], [], sM Ln (dd_u I 148 (upd (I 148) 0 0)) L c s)) rfl (fun hc => ?_) (fun hc => ?_) (by omega)
      · have h := h.1 hc
        refine dd_Rn.retK 1 (pc := 15) (ls := [.int a2, .int 0, .int 7]) (st := [.int 0]) (M := sM Ln (dd_u I 148 (upd (I 148) 0 0)) L c s) (o := (none, .int 0, sM Ln (dd_u I 148 (upd (I 148) 0 0)) L c s)) rfl rfl (dd_Af.ret rfl ?_) (by omega)
        show dd_Rn (e + 15) m_X11_noBeat (7, [.int a2], [.int 0], sM Ln (dd_u I 148 (upd (I 148) 0 0)) L c s) _
        refine dd_Rn.retK 3 (pc := 15) (ls := [.int a2]) (st := [.int 1]) (M := sM Ln (dd_u I 148 (upd (I 148) 0 0)) L c s) (o := (none, .int 1, sM Ln (dd_u I 148 (upd (I 148) 0 0)) L c s)) rfl rfl (dd_Af.ret rfl ?_) (by omega)
        show dd_Rn (e + 16) m_X11_note (18, [.ref 148, .int a1, .int a2], [.int 1, .ref 148], sM Ln (dd_u I 148 (upd (I 148) 0 0)) L c s) _
        refine dd_Rn.sub 4 (pc := 27) (ls := [.ref 148, .int a1, .int a2]) (st := [.int 1, .int 1, .ref 148]) (M := sM Ln (dd_u I 148 (upd (I 148) 0 0)) L c s) (x := m_X11_throwsIf) (as := [.ref 148, .int 1, .int 1]) (rest := []) rfl rfl rfl rfl ?_
        show dd_Rn (e + 15) m_X11_throwsIf (0, [.ref 148, .int 1, .int 1], [], sM Ln (dd_u I 148 (upd (I 148) 0 0)) L c s) _
        refine dd_Rn.retK 6 (pc := 10) (ls := [.ref 148, .int 1, .int 1]) (st := [.int 1]) (M := sM Ln (dd_u (dd_u I 148 (upd (I 148) 0 0)) 148 (upd (upd (I 148) 0 0) 0 1)) L c s) (o := (none, .int 1, sM Ln (dd_u (dd_u I 148 (upd (I 148) 0 0)) 148 (upd (upd (I 148) 0 0) 0 1)) L c s)) rfl rfl (dd_Af.ret rfl ?_) (by omega)
        show dd_Rn (e + 16) m_X11_note (30, [.ref 148, .int a1, .int a2], [.int 1], sM Ln (dd_u (dd_u I 148 (upd (I 148) 0 0)) 148 (upd (upd (I 148) 0 0) 0 1)) L c s) _
        exact dd_Rn.retK 3 (pc := 47) (ls := [.ref 148, .int a1, .int a2]) (st := [.int 0]) (M := sM Ln (dd_u (dd_u I 148 (upd (I 148) 0 0)) 148 (upd (upd (I 148) 0 0) 0 1)) L c s) (o := (none, .int 0, sM Ln (dd_u (dd_u I 148 (upd (I 148) 0 0)) 148 (upd (upd (I 148) 0 0) 0 1)) L c s)) rfl rfl h (by omega)
      · have h := h.2 hc
        refine dd_Rn.ite 2 (c := (7 : Int32) < a2) (A := (14, [.int a2, .int 0, .int 7], [], sM Ln (dd_u I 148 (upd (I 148) 0 0)) L c s)) (B := (10, [.int a2, .int 0, .int 7], [], sM Ln (dd_u I 148 (upd (I 148) 0 0)) L c s)) rfl (fun hc => ?_) (fun hc => ?_) (by omega)
        · have h := h.1 hc
          refine dd_Rn.retK 1 (pc := 15) (ls := [.int a2, .int 0, .int 7]) (st := [.int 0]) (M := sM Ln (dd_u I 148 (upd (I 148) 0 0)) L c s) (o := (none, .int 0, sM Ln (dd_u I 148 (upd (I 148) 0 0)) L c s)) rfl rfl (dd_Af.ret rfl ?_) (by omega)
          show dd_Rn (e + 15) m_X11_noBeat (7, [.int a2], [.int 0], sM Ln (dd_u I 148 (upd (I 148) 0 0)) L c s) _
          refine dd_Rn.retK 3 (pc := 15) (ls := [.int a2]) (st := [.int 1]) (M := sM Ln (dd_u I 148 (upd (I 148) 0 0)) L c s) (o := (none, .int 1, sM Ln (dd_u I 148 (upd (I 148) 0 0)) L c s)) rfl rfl (dd_Af.ret rfl ?_) (by omega)
          show dd_Rn (e + 16) m_X11_note (18, [.ref 148, .int a1, .int a2], [.int 1, .ref 148], sM Ln (dd_u I 148 (upd (I 148) 0 0)) L c s) _
          refine dd_Rn.sub 4 (pc := 27) (ls := [.ref 148, .int a1, .int a2]) (st := [.int 1, .int 1, .ref 148]) (M := sM Ln (dd_u I 148 (upd (I 148) 0 0)) L c s) (x := m_X11_throwsIf) (as := [.ref 148, .int 1, .int 1]) (rest := []) rfl rfl rfl rfl ?_
          show dd_Rn (e + 15) m_X11_throwsIf (0, [.ref 148, .int 1, .int 1], [], sM Ln (dd_u I 148 (upd (I 148) 0 0)) L c s) _
          refine dd_Rn.retK 6 (pc := 10) (ls := [.ref 148, .int 1, .int 1]) (st := [.int 1]) (M := sM Ln (dd_u (dd_u I 148 (upd (I 148) 0 0)) 148 (upd (upd (I 148) 0 0) 0 1)) L c s) (o := (none, .int 1, sM Ln (dd_u (dd_u I 148 (upd (I 148) 0 0)) 148 (upd (upd (I 148) 0 0) 0 1)) L c s)) rfl rfl (dd_Af.ret rfl ?_) (by omega)
          show dd_Rn (e + 16) m_X11_note (30, [.ref 148, .int a1, .int a2], [.int 1], sM Ln (dd_u (dd_u I 148 (upd (I 148) 0 0)) 148 (upd (upd (I 148) 0 0) 0 1)) L c s) _
          exact dd_Rn.retK 3 (pc := 47) (ls := [.ref 148, .int a1, .int a2]) (st := [.int 0]) (M := sM Ln (dd_u (dd_u I 148 (upd (I 148) 0 0)) 148 (upd (upd (I 148) 0 0) 0 1)) L c s) (o := (none, .int 0, sM Ln (dd_u (dd_u I 148 (upd (I 148) 0 0)) 148 (upd (upd (I 148) 0 0) 0 1)) L c s)) rfl rfl h (by omega)
        · have h := h.2 hc
          refine dd_Rn.retK 2 (pc := 15) (ls := [.int a2, .int 0, .int 7]) (st := [.int 1]) (M := sM Ln (dd_u I 148 (upd (I 148) 0 0)) L c s) (o := (none, .int 1, sM Ln (dd_u I 148 (upd (I 148) 0 0)) L c s)) rfl rfl (dd_Af.ret rfl ?_) (by omega)
          show dd_Rn (e + 15) m_X11_noBeat (7, [.int a2], [.int 1], sM Ln (dd_u I 148 (upd (I 148) 0 0)) L c s) _
          refine dd_Rn.retK 2 (pc := 15) (ls := [.int a2]) (st := [.int 0]) (M := sM Ln (dd_u I 148 (upd (I 148) 0 0)) L c s) (o := (none, .int 0, sM Ln (dd_u I 148 (upd (I 148) 0 0)) L c s)) rfl rfl (dd_Af.ret rfl ?_) (by omega)
          show dd_Rn (e + 16) m_X11_note (18, [.ref 148, .int a1, .int a2], [.int 0, .ref 148], sM Ln (dd_u I 148 (upd (I 148) 0 0)) L c s) _
          refine dd_Rn.sub 3 (pc := 27) (ls := [.ref 148, .int a1, .int a2]) (st := [.int 1, .int 0, .ref 148]) (M := sM Ln (dd_u I 148 (upd (I 148) 0 0)) L c s) (x := m_X11_throwsIf) (as := [.ref 148, .int 0, .int 1]) (rest := []) rfl rfl rfl rfl ?_
          show dd_Rn (e + 15) m_X11_throwsIf (0, [.ref 148, .int 0, .int 1], [], sM Ln (dd_u I 148 (upd (I 148) 0 0)) L c s) _
          refine dd_Rn.retK 3 (pc := 10) (ls := [.ref 148, .int 0, .int 1]) (st := [.int 0]) (M := sM Ln (dd_u I 148 (upd (I 148) 0 0)) L c s) (o := (none, .int 0, sM Ln (dd_u I 148 (upd (I 148) 0 0)) L c s)) rfl rfl (dd_Af.ret rfl ?_) (by omega)
          show dd_Rn (e + 16) m_X11_note (30, [.ref 148, .int a1, .int a2], [.int 0], sM Ln (dd_u I 148 (upd (I 148) 0 0)) L c s) _
          refine dd_Rn.sub 5 (pc := 43) (ls := [.ref 148, .int a1, .int a2]) (st := [.int a2, .int a1, .ref 149]) (M := sM Ln (dd_u I 148 (upd (I 148) 0 0)) L c s) (x := m_X11_noteAt) (as := [.int a1, .int a2]) (rest := [.ref 149]) rfl rfl rfl rfl ?_
          show dd_Rn (e + 15) m_X11_noteAt (0, [.int a1, .int a2], [], sM Ln (dd_u I 148 (upd (I 148) 0 0)) L c s) _
          refine dd_Rn.retK 7 (pc := 10) (ls := [.int a1, .int a2]) (st := [.int (((139 : Int32) + ((8 : Int32) * a1)) + a2)]) (M := sM Ln (dd_u I 148 (upd (I 148) 0 0)) L c s) (o := (none, .int (((139 : Int32) + ((8 : Int32) * a1)) + a2), sM Ln (dd_u I 148 (upd (I 148) 0 0)) L c s)) rfl rfl (dd_Af.ret rfl ?_) (by omega)
          show dd_Rn (e + 16) m_X11_note (46, [.ref 148, .int a1, .int a2], [.int (((139 : Int32) + ((8 : Int32) * a1)) + a2), .ref 149], sM Ln (dd_u I 148 (upd (I 148) 0 0)) L c s) _
          obtain ⟨hc, h⟩ := h
          refine dd_Rn.ci (fun j0 => (46, [.ref 148, .int a1, .int a2], [.int j0, .ref 149], sM Ln (dd_u I 148 (upd (I 148) 0 0)) L c s)) (fun j0 => (47, [.ref 148, .int a1, .int a2], [.int (I 149 (tn j0))], sM Ln (dd_u I 148 (upd (I 148) 0 0)) L c s)) (fun j0 => 0 ≤ j0 ∧ tn j0 < 2220) (((139 : Int32) + ((8 : Int32) * a1)) + a2) (fun j0 hc h => dd_Rn.chk 0 (c := 0 ≤ j0 ∧ tn j0 < 2220) (A := (47, [.ref 148, .int a1, .int a2], [.int (I 149 (tn j0))], sM Ln (dd_u I 148 (upd (I 148) 0 0)) L c s)) rfl hc h (by omega)) hc ?_
          refine dd_Rn.se (cf := (47, [.ref 148, .int a1, .int a2], [.int (I 149 (tn (((139 : Int32) + ((8 : Int32) * a1)) + a2)))], sM Ln (dd_u I 148 (upd (I 148) 0 0)) L c s)) ?_
          exact dd_Rn.retK 0 (pc := 47) (ls := [.ref 148, .int a1, .int a2]) (st := [.int (I 149 (tn (((139 : Int32) + ((8 : Int32) * a1)) + a2)))]) (M := sM Ln (dd_u I 148 (upd (I 148) 0 0)) L c s) (o := (none, .int (I 149 (tn (((139 : Int32) + ((8 : Int32) * a1)) + a2))), sM Ln (dd_u I 148 (upd (I 148) 0 0)) L c s)) rfl rfl h (by omega)
