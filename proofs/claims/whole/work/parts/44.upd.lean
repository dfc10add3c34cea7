/-! The wood: one change on both sides (written by gen/rw.py) -/
theorem RW.mk1 {w : Nat → Nat} {I : Nat → Nat → Int32} {L : Nat → Nat → Int64} (h0 : ∀ c, c < 64 → bL (L 1 0) c = decide (w (11 + c) = 1)) (h1 : ∀ c, c < 64 → I 2 c = nI (w (75 + c))) (h2 : ∀ j, j < 48 → I 3 j = nI (w (139 + j))) (h3 : ∀ b, b < 6 → I 4 b = nI (w (187 + 5 * b))) (h4 : ∀ b, b < 6 → I 5 b = nI (w (187 + 5 * b + 1))) (h5 : ∀ b, b < 6 → I 6 b = nI (w (187 + 5 * b + 2))) (h6 : ∀ b, b < 6 → I 7 b = nI (w (187 + 5 * b + 4))) (h7 : ∀ i, i < 32 → bX (I 1 12) i = (decide (i < 6) && decide (w (187 + 5 * i + 3) = 1))) (h8 : ∀ a, a < w 9 → I 8 (w 9 - 1 - a) = nI (pck w a)) (h9 : I 1 8 = nI (w 9)) (h10 : I 1 9 = nI (w 0)) (h11 : I 1 10 = nI (w 1)) (h12 : I 1 11 = nI (w 2)) (h13 : I 1 13 = nI (w 4)) (h14 : I 1 14 = nI (w 5)) (h15 : I 1 15 = nI (w 6)) (h16 : I 1 16 = nI (w 7)) (h17 : I 1 17 = nI (w 8)) (h18 : I 1 18 = nI (w 10)) : RW w I L 1 := ⟨h0, h1, h2, h3, h4, h5, h6, h7, h8, h9, h10, h11, h12, h13, h14, h15, h16, h17, h18⟩
theorem pck_up {w : Nat → Nat} {J v a : Nat} (h : J < 222) : pck (upw w J v) a = pck w a := by
  unfold pck
  rw [upw_ne (by omega), upw_ne (by omega), upw_ne (by omega), upw_ne (by omega), upw_ne (by omega)]
theorem RW.uCell {w : Nat → Nat} {I : Nat → Nat → Int32} {L : Nat → Nat → Int64} (h : RW w I L 1) {b v : Nat} (hb : b < 6) : RW (upw w (187 + 5 * b) v) (dd_u I 4 (upd (I 4) b (nI v))) (L) 1 := by
  refine RW.mk1 ?_ ?_ ?_ ?_ ?_ ?_ ?_ ?_ ?_ ?_ ?_ ?_ ?_ ?_ ?_ ?_ ?_ ?_ ?_
  · intro c' hc'
    rw [upw_ne (by omega)]
    exact h.tree hc'
  · intro x hx
    rw [dd_un (by decide), upw_ne (by omega)]
    exact h.fern hx
  · intro x hx
    rw [dd_un (by decide), upw_ne (by omega)]
    exact h.note hx
  · intro x hx
    rw [dd_us]
    by_cases e : x = b
    · subst e; rw [pk_us, upw_eq]
    · rw [pk_un e, upw_ne (by omega)]; exact h.cell hx
  · intro x hx
    rw [dd_un (by decide), upw_ne (by omega)]
    exact h.sung hx
  · intro x hx
    rw [dd_un (by decide), upw_ne (by omega)]
    exact h.ear hx
  · intro x hx
    rw [dd_un (by decide), upw_ne (by omega)]
    exact h.bad hx
  · intro i hi
    rw [dd_un (by decide)]
    by_cases q : i < 6
    · rw [upw_ne (by omega)]; exact h.isin hi
    · rw [decide_eq_false q, Bool.false_and]
      have := h.isin hi
      rw [decide_eq_false q, Bool.false_and] at this
      exact this
  · intro a ha
    rw [upw_ne (by omega)] at ha
    rw [dd_un (by decide), upw_ne (by omega), pck_up (by omega)]
    exact h.row ha
  · rw [dd_un (by decide), upw_ne (by omega)]
    exact h.rows
  · rw [dd_un (by decide), upw_ne (by omega)]
    exact h.parts
  · rw [dd_un (by decide), upw_ne (by omega)]
    exact h.boys
  · rw [dd_un (by decide), upw_ne (by omega)]
    exact h.texts
  · rw [dd_un (by decide), upw_ne (by omega)]
    exact h.fire
  · rw [dd_un (by decide), upw_ne (by omega)]
    exact h.loud
  · rw [dd_un (by decide), upw_ne (by omega)]
    exact h.stray
  · rw [dd_un (by decide), upw_ne (by omega)]
    exact h.beat
  · rw [dd_un (by decide), upw_ne (by omega)]
    exact h.night
  · rw [dd_un (by decide), upw_ne (by omega)]
    exact h.seed
theorem RW.uSung {w : Nat → Nat} {I : Nat → Nat → Int32} {L : Nat → Nat → Int64} (h : RW w I L 1) {b v : Nat} (hb : b < 6) : RW (upw w (187 + 5 * b + 1) v) (dd_u I 5 (upd (I 5) b (nI v))) (L) 1 := by
  refine RW.mk1 ?_ ?_ ?_ ?_ ?_ ?_ ?_ ?_ ?_ ?_ ?_ ?_ ?_ ?_ ?_ ?_ ?_ ?_ ?_
  · intro c' hc'
    rw [upw_ne (by omega)]
    exact h.tree hc'
  · intro x hx
    rw [dd_un (by decide), upw_ne (by omega)]
    exact h.fern hx
  · intro x hx
    rw [dd_un (by decide), upw_ne (by omega)]
    exact h.note hx
  · intro x hx
    rw [dd_un (by decide), upw_ne (by omega)]
    exact h.cell hx
  · intro x hx
    rw [dd_us]
    by_cases e : x = b
    · subst e; rw [pk_us, upw_eq]
    · rw [pk_un e, upw_ne (by omega)]; exact h.sung hx
  · intro x hx
    rw [dd_un (by decide), upw_ne (by omega)]
    exact h.ear hx
  · intro x hx
    rw [dd_un (by decide), upw_ne (by omega)]
    exact h.bad hx
  · intro i hi
    rw [dd_un (by decide)]
    by_cases q : i < 6
    · rw [upw_ne (by omega)]; exact h.isin hi
    · rw [decide_eq_false q, Bool.false_and]
      have := h.isin hi
      rw [decide_eq_false q, Bool.false_and] at this
      exact this
  · intro a ha
    rw [upw_ne (by omega)] at ha
    rw [dd_un (by decide), upw_ne (by omega), pck_up (by omega)]
    exact h.row ha
  · rw [dd_un (by decide), upw_ne (by omega)]
    exact h.rows
  · rw [dd_un (by decide), upw_ne (by omega)]
    exact h.parts
  · rw [dd_un (by decide), upw_ne (by omega)]
    exact h.boys
  · rw [dd_un (by decide), upw_ne (by omega)]
    exact h.texts
  · rw [dd_un (by decide), upw_ne (by omega)]
    exact h.fire
  · rw [dd_un (by decide), upw_ne (by omega)]
    exact h.loud
  · rw [dd_un (by decide), upw_ne (by omega)]
    exact h.stray
  · rw [dd_un (by decide), upw_ne (by omega)]
    exact h.beat
  · rw [dd_un (by decide), upw_ne (by omega)]
    exact h.night
  · rw [dd_un (by decide), upw_ne (by omega)]
    exact h.seed
theorem RW.uEar {w : Nat → Nat} {I : Nat → Nat → Int32} {L : Nat → Nat → Int64} (h : RW w I L 1) {b v : Nat} (hb : b < 6) : RW (upw w (187 + 5 * b + 2) v) (dd_u I 6 (upd (I 6) b (nI v))) (L) 1 := by
  refine RW.mk1 ?_ ?_ ?_ ?_ ?_ ?_ ?_ ?_ ?_ ?_ ?_ ?_ ?_ ?_ ?_ ?_ ?_ ?_ ?_
  · intro c' hc'
    rw [upw_ne (by omega)]
    exact h.tree hc'
  · intro x hx
    rw [dd_un (by decide), upw_ne (by omega)]
    exact h.fern hx
  · intro x hx
    rw [dd_un (by decide), upw_ne (by omega)]
    exact h.note hx
  · intro x hx
    rw [dd_un (by decide), upw_ne (by omega)]
    exact h.cell hx
  · intro x hx
    rw [dd_un (by decide), upw_ne (by omega)]
    exact h.sung hx
  · intro x hx
    rw [dd_us]
    by_cases e : x = b
    · subst e; rw [pk_us, upw_eq]
    · rw [pk_un e, upw_ne (by omega)]; exact h.ear hx
  · intro x hx
    rw [dd_un (by decide), upw_ne (by omega)]
    exact h.bad hx
  · intro i hi
    rw [dd_un (by decide)]
    by_cases q : i < 6
    · rw [upw_ne (by omega)]; exact h.isin hi
    · rw [decide_eq_false q, Bool.false_and]
      have := h.isin hi
      rw [decide_eq_false q, Bool.false_and] at this
      exact this
  · intro a ha
    rw [upw_ne (by omega)] at ha
    rw [dd_un (by decide), upw_ne (by omega), pck_up (by omega)]
    exact h.row ha
  · rw [dd_un (by decide), upw_ne (by omega)]
    exact h.rows
  · rw [dd_un (by decide), upw_ne (by omega)]
    exact h.parts
  · rw [dd_un (by decide), upw_ne (by omega)]
    exact h.boys
  · rw [dd_un (by decide), upw_ne (by omega)]
    exact h.texts
  · rw [dd_un (by decide), upw_ne (by omega)]
    exact h.fire
  · rw [dd_un (by decide), upw_ne (by omega)]
    exact h.loud
  · rw [dd_un (by decide), upw_ne (by omega)]
    exact h.stray
  · rw [dd_un (by decide), upw_ne (by omega)]
    exact h.beat
  · rw [dd_un (by decide), upw_ne (by omega)]
    exact h.night
  · rw [dd_un (by decide), upw_ne (by omega)]
    exact h.seed
theorem RW.uBad {w : Nat → Nat} {I : Nat → Nat → Int32} {L : Nat → Nat → Int64} (h : RW w I L 1) {b v : Nat} (hb : b < 6) : RW (upw w (187 + 5 * b + 4) v) (dd_u I 7 (upd (I 7) b (nI v))) (L) 1 := by
  refine RW.mk1 ?_ ?_ ?_ ?_ ?_ ?_ ?_ ?_ ?_ ?_ ?_ ?_ ?_ ?_ ?_ ?_ ?_ ?_ ?_
  · intro c' hc'
    rw [upw_ne (by omega)]
    exact h.tree hc'
  · intro x hx
    rw [dd_un (by decide), upw_ne (by omega)]
    exact h.fern hx
  · intro x hx
    rw [dd_un (by decide), upw_ne (by omega)]
    exact h.note hx
  · intro x hx
    rw [dd_un (by decide), upw_ne (by omega)]
    exact h.cell hx
  · intro x hx
    rw [dd_un (by decide), upw_ne (by omega)]
    exact h.sung hx
  · intro x hx
    rw [dd_un (by decide), upw_ne (by omega)]
    exact h.ear hx
  · intro x hx
    rw [dd_us]
    by_cases e : x = b
    · subst e; rw [pk_us, upw_eq]
    · rw [pk_un e, upw_ne (by omega)]; exact h.bad hx
  · intro i hi
    rw [dd_un (by decide)]
    by_cases q : i < 6
    · rw [upw_ne (by omega)]; exact h.isin hi
    · rw [decide_eq_false q, Bool.false_and]
      have := h.isin hi
      rw [decide_eq_false q, Bool.false_and] at this
      exact this
  · intro a ha
    rw [upw_ne (by omega)] at ha
    rw [dd_un (by decide), upw_ne (by omega), pck_up (by omega)]
    exact h.row ha
  · rw [dd_un (by decide), upw_ne (by omega)]
    exact h.rows
  · rw [dd_un (by decide), upw_ne (by omega)]
    exact h.parts
  · rw [dd_un (by decide), upw_ne (by omega)]
    exact h.boys
  · rw [dd_un (by decide), upw_ne (by omega)]
    exact h.texts
  · rw [dd_un (by decide), upw_ne (by omega)]
    exact h.fire
  · rw [dd_un (by decide), upw_ne (by omega)]
    exact h.loud
  · rw [dd_un (by decide), upw_ne (by omega)]
    exact h.stray
  · rw [dd_un (by decide), upw_ne (by omega)]
    exact h.beat
  · rw [dd_un (by decide), upw_ne (by omega)]
    exact h.night
  · rw [dd_un (by decide), upw_ne (by omega)]
    exact h.seed
theorem RW.uNote {w : Nat → Nat} {I : Nat → Nat → Int32} {L : Nat → Nat → Int64} (h : RW w I L 1) {j v : Nat} (hj : j < 48) : RW (upw w (139 + j) v) (dd_u I 3 (upd (I 3) j (nI v))) (L) 1 := by
  refine RW.mk1 ?_ ?_ ?_ ?_ ?_ ?_ ?_ ?_ ?_ ?_ ?_ ?_ ?_ ?_ ?_ ?_ ?_ ?_ ?_
  · intro c' hc'
    rw [upw_ne (by omega)]
    exact h.tree hc'
  · intro x hx
    rw [dd_un (by decide), upw_ne (by omega)]
    exact h.fern hx
  · intro x hx
    rw [dd_us]
    by_cases e : x = j
    · subst e; rw [pk_us, upw_eq]
    · rw [pk_un e, upw_ne (by omega)]; exact h.note hx
  · intro x hx
    rw [dd_un (by decide), upw_ne (by omega)]
    exact h.cell hx
  · intro x hx
    rw [dd_un (by decide), upw_ne (by omega)]
    exact h.sung hx
  · intro x hx
    rw [dd_un (by decide), upw_ne (by omega)]
    exact h.ear hx
  · intro x hx
    rw [dd_un (by decide), upw_ne (by omega)]
    exact h.bad hx
  · intro i hi
    rw [dd_un (by decide)]
    by_cases q : i < 6
    · rw [upw_ne (by omega)]; exact h.isin hi
    · rw [decide_eq_false q, Bool.false_and]
      have := h.isin hi
      rw [decide_eq_false q, Bool.false_and] at this
      exact this
  · intro a ha
    rw [upw_ne (by omega)] at ha
    rw [dd_un (by decide), upw_ne (by omega), pck_up (by omega)]
    exact h.row ha
  · rw [dd_un (by decide), upw_ne (by omega)]
    exact h.rows
  · rw [dd_un (by decide), upw_ne (by omega)]
    exact h.parts
  · rw [dd_un (by decide), upw_ne (by omega)]
    exact h.boys
  · rw [dd_un (by decide), upw_ne (by omega)]
    exact h.texts
  · rw [dd_un (by decide), upw_ne (by omega)]
    exact h.fire
  · rw [dd_un (by decide), upw_ne (by omega)]
    exact h.loud
  · rw [dd_un (by decide), upw_ne (by omega)]
    exact h.stray
  · rw [dd_un (by decide), upw_ne (by omega)]
    exact h.beat
  · rw [dd_un (by decide), upw_ne (by omega)]
    exact h.night
  · rw [dd_un (by decide), upw_ne (by omega)]
    exact h.seed
theorem RW.uFern {w : Nat → Nat} {I : Nat → Nat → Int32} {L : Nat → Nat → Int64} (h : RW w I L 1) {c v : Nat} (hc : c < 64) : RW (upw w (75 + c) v) (dd_u I 2 (upd (I 2) c (nI v))) (L) 1 := by
  refine RW.mk1 ?_ ?_ ?_ ?_ ?_ ?_ ?_ ?_ ?_ ?_ ?_ ?_ ?_ ?_ ?_ ?_ ?_ ?_ ?_
  · intro c' hc'
    rw [upw_ne (by omega)]
    exact h.tree hc'
  · intro x hx
    rw [dd_us]
    by_cases e : x = c
    · subst e; rw [pk_us, upw_eq]
    · rw [pk_un e, upw_ne (by omega)]; exact h.fern hx
  · intro x hx
    rw [dd_un (by decide), upw_ne (by omega)]
    exact h.note hx
  · intro x hx
    rw [dd_un (by decide), upw_ne (by omega)]
    exact h.cell hx
  · intro x hx
    rw [dd_un (by decide), upw_ne (by omega)]
    exact h.sung hx
  · intro x hx
    rw [dd_un (by decide), upw_ne (by omega)]
    exact h.ear hx
  · intro x hx
    rw [dd_un (by decide), upw_ne (by omega)]
    exact h.bad hx
  · intro i hi
    rw [dd_un (by decide)]
    by_cases q : i < 6
    · rw [upw_ne (by omega)]; exact h.isin hi
    · rw [decide_eq_false q, Bool.false_and]
      have := h.isin hi
      rw [decide_eq_false q, Bool.false_and] at this
      exact this
  · intro a ha
    rw [upw_ne (by omega)] at ha
    rw [dd_un (by decide), upw_ne (by omega), pck_up (by omega)]
    exact h.row ha
  · rw [dd_un (by decide), upw_ne (by omega)]
    exact h.rows
  · rw [dd_un (by decide), upw_ne (by omega)]
    exact h.parts
  · rw [dd_un (by decide), upw_ne (by omega)]
    exact h.boys
  · rw [dd_un (by decide), upw_ne (by omega)]
    exact h.texts
  · rw [dd_un (by decide), upw_ne (by omega)]
    exact h.fire
  · rw [dd_un (by decide), upw_ne (by omega)]
    exact h.loud
  · rw [dd_un (by decide), upw_ne (by omega)]
    exact h.stray
  · rw [dd_un (by decide), upw_ne (by omega)]
    exact h.beat
  · rw [dd_un (by decide), upw_ne (by omega)]
    exact h.night
  · rw [dd_un (by decide), upw_ne (by omega)]
    exact h.seed
theorem RW.uIn {w : Nat → Nat} {I : Nat → Nat → Int32} {L : Nat → Nat → Int64} (h : RW w I L 1) {b v : Nat} {m : Int32} (hb : b < 6) (hm : ∀ i, i < 32 → bX m i = if i = b then decide (v = 1) else bX (I 1 12) i) : RW (upw w (187 + 5 * b + 3) v) (dd_u I 1 (upd (I 1) 12 m)) (L) 1 := by
  refine RW.mk1 ?_ ?_ ?_ ?_ ?_ ?_ ?_ ?_ ?_ ?_ ?_ ?_ ?_ ?_ ?_ ?_ ?_ ?_ ?_
  · intro c' hc'
    rw [upw_ne (by omega)]
    exact h.tree hc'
  · intro x hx
    rw [dd_un (by decide), upw_ne (by omega)]
    exact h.fern hx
  · intro x hx
    rw [dd_un (by decide), upw_ne (by omega)]
    exact h.note hx
  · intro x hx
    rw [dd_un (by decide), upw_ne (by omega)]
    exact h.cell hx
  · intro x hx
    rw [dd_un (by decide), upw_ne (by omega)]
    exact h.sung hx
  · intro x hx
    rw [dd_un (by decide), upw_ne (by omega)]
    exact h.ear hx
  · intro x hx
    rw [dd_un (by decide), upw_ne (by omega)]
    exact h.bad hx
  · intro i hi
    rw [dd_us, pk_us, hm i hi]
    by_cases e : i = b
    · subst e; rw [if_pos rfl, upw_eq, decide_eq_true hb, Bool.true_and]
    · rw [if_neg e, upw_ne (by omega)]; exact h.isin hi
  · intro a ha
    rw [upw_ne (by omega)] at ha
    rw [dd_un (by decide), upw_ne (by omega), pck_up (by omega)]
    exact h.row ha
  · rw [dd_us, pk_un (by decide), upw_ne (by omega)]
    exact h.rows
  · rw [dd_us, pk_un (by decide), upw_ne (by omega)]
    exact h.parts
  · rw [dd_us, pk_un (by decide), upw_ne (by omega)]
    exact h.boys
  · rw [dd_us, pk_un (by decide), upw_ne (by omega)]
    exact h.texts
  · rw [dd_us, pk_un (by decide), upw_ne (by omega)]
    exact h.fire
  · rw [dd_us, pk_un (by decide), upw_ne (by omega)]
    exact h.loud
  · rw [dd_us, pk_un (by decide), upw_ne (by omega)]
    exact h.stray
  · rw [dd_us, pk_un (by decide), upw_ne (by omega)]
    exact h.beat
  · rw [dd_us, pk_un (by decide), upw_ne (by omega)]
    exact h.night
  · rw [dd_us, pk_un (by decide), upw_ne (by omega)]
    exact h.seed
theorem RW.uTree {w : Nat → Nat} {I : Nat → Nat → Int32} {L : Nat → Nat → Int64} (h : RW w I L 1) {c v : Nat} {m : Int64} (hc : c < 64) (hm : ∀ i, i < 64 → bL m i = if i = c then decide (v = 1) else bL (L 1 0) i) : RW (upw w (11 + c) v) (I) (dd_u L 1 (vp_updL (L 1) 0 m)) 1 := by
  refine RW.mk1 ?_ ?_ ?_ ?_ ?_ ?_ ?_ ?_ ?_ ?_ ?_ ?_ ?_ ?_ ?_ ?_ ?_ ?_ ?_
  · intro c' hc'
    rw [dd_us, pk_uLs, hm c' hc']
    by_cases e : c' = c
    · subst e; rw [if_pos rfl, upw_eq]
    · rw [if_neg e, upw_ne (by omega)]; exact h.tree hc'
  · intro x hx
    rw [upw_ne (by omega)]
    exact h.fern hx
  · intro x hx
    rw [upw_ne (by omega)]
    exact h.note hx
  · intro x hx
    rw [upw_ne (by omega)]
    exact h.cell hx
  · intro x hx
    rw [upw_ne (by omega)]
    exact h.sung hx
  · intro x hx
    rw [upw_ne (by omega)]
    exact h.ear hx
  · intro x hx
    rw [upw_ne (by omega)]
    exact h.bad hx
  · intro i hi
    by_cases q : i < 6
    · rw [upw_ne (by omega)]; exact h.isin hi
    · rw [decide_eq_false q, Bool.false_and]
      have := h.isin hi
      rw [decide_eq_false q, Bool.false_and] at this
      exact this
  · intro a ha
    rw [upw_ne (by omega)] at ha
    rw [upw_ne (by omega), pck_up (by omega)]
    exact h.row ha
  · rw [upw_ne (by omega)]
    exact h.rows
  · rw [upw_ne (by omega)]
    exact h.parts
  · rw [upw_ne (by omega)]
    exact h.boys
  · rw [upw_ne (by omega)]
    exact h.texts
  · rw [upw_ne (by omega)]
    exact h.fire
  · rw [upw_ne (by omega)]
    exact h.loud
  · rw [upw_ne (by omega)]
    exact h.stray
  · rw [upw_ne (by omega)]
    exact h.beat
  · rw [upw_ne (by omega)]
    exact h.night
  · rw [upw_ne (by omega)]
    exact h.seed
theorem RW.uParts {w : Nat → Nat} {I : Nat → Nat → Int32} {L : Nat → Nat → Int64} (h : RW w I L 1) {v : Nat} : RW (upw w (0) v) (dd_u I 1 (upd (I 1) 9 (nI v))) (L) 1 := by
  refine RW.mk1 ?_ ?_ ?_ ?_ ?_ ?_ ?_ ?_ ?_ ?_ ?_ ?_ ?_ ?_ ?_ ?_ ?_ ?_ ?_
  · intro c' hc'
    rw [upw_ne (by omega)]
    exact h.tree hc'
  · intro x hx
    rw [dd_un (by decide), upw_ne (by omega)]
    exact h.fern hx
  · intro x hx
    rw [dd_un (by decide), upw_ne (by omega)]
    exact h.note hx
  · intro x hx
    rw [dd_un (by decide), upw_ne (by omega)]
    exact h.cell hx
  · intro x hx
    rw [dd_un (by decide), upw_ne (by omega)]
    exact h.sung hx
  · intro x hx
    rw [dd_un (by decide), upw_ne (by omega)]
    exact h.ear hx
  · intro x hx
    rw [dd_un (by decide), upw_ne (by omega)]
    exact h.bad hx
  · intro i hi
    rw [dd_us, pk_un (by decide)]
    by_cases q : i < 6
    · rw [upw_ne (by omega)]; exact h.isin hi
    · rw [decide_eq_false q, Bool.false_and]
      have := h.isin hi
      rw [decide_eq_false q, Bool.false_and] at this
      exact this
  · intro a ha
    rw [upw_ne (by omega)] at ha
    rw [dd_un (by decide), upw_ne (by omega), pck_up (by omega)]
    exact h.row ha
  · rw [dd_us, pk_un (by decide), upw_ne (by omega)]
    exact h.rows
  · rw [dd_us, pk_us, upw_eq]
  · rw [dd_us, pk_un (by decide), upw_ne (by omega)]
    exact h.boys
  · rw [dd_us, pk_un (by decide), upw_ne (by omega)]
    exact h.texts
  · rw [dd_us, pk_un (by decide), upw_ne (by omega)]
    exact h.fire
  · rw [dd_us, pk_un (by decide), upw_ne (by omega)]
    exact h.loud
  · rw [dd_us, pk_un (by decide), upw_ne (by omega)]
    exact h.stray
  · rw [dd_us, pk_un (by decide), upw_ne (by omega)]
    exact h.beat
  · rw [dd_us, pk_un (by decide), upw_ne (by omega)]
    exact h.night
  · rw [dd_us, pk_un (by decide), upw_ne (by omega)]
    exact h.seed
theorem RW.uBoys {w : Nat → Nat} {I : Nat → Nat → Int32} {L : Nat → Nat → Int64} (h : RW w I L 1) {v : Nat} : RW (upw w (1) v) (dd_u I 1 (upd (I 1) 10 (nI v))) (L) 1 := by
  refine RW.mk1 ?_ ?_ ?_ ?_ ?_ ?_ ?_ ?_ ?_ ?_ ?_ ?_ ?_ ?_ ?_ ?_ ?_ ?_ ?_
  · intro c' hc'
    rw [upw_ne (by omega)]
    exact h.tree hc'
  · intro x hx
    rw [dd_un (by decide), upw_ne (by omega)]
    exact h.fern hx
  · intro x hx
    rw [dd_un (by decide), upw_ne (by omega)]
    exact h.note hx
  · intro x hx
    rw [dd_un (by decide), upw_ne (by omega)]
    exact h.cell hx
  · intro x hx
    rw [dd_un (by decide), upw_ne (by omega)]
    exact h.sung hx
  · intro x hx
    rw [dd_un (by decide), upw_ne (by omega)]
    exact h.ear hx
  · intro x hx
    rw [dd_un (by decide), upw_ne (by omega)]
    exact h.bad hx
  · intro i hi
    rw [dd_us, pk_un (by decide)]
    by_cases q : i < 6
    · rw [upw_ne (by omega)]; exact h.isin hi
    · rw [decide_eq_false q, Bool.false_and]
      have := h.isin hi
      rw [decide_eq_false q, Bool.false_and] at this
      exact this
  · intro a ha
    rw [upw_ne (by omega)] at ha
    rw [dd_un (by decide), upw_ne (by omega), pck_up (by omega)]
    exact h.row ha
  · rw [dd_us, pk_un (by decide), upw_ne (by omega)]
    exact h.rows
  · rw [dd_us, pk_un (by decide), upw_ne (by omega)]
    exact h.parts
  · rw [dd_us, pk_us, upw_eq]
  · rw [dd_us, pk_un (by decide), upw_ne (by omega)]
    exact h.texts
  · rw [dd_us, pk_un (by decide), upw_ne (by omega)]
    exact h.fire
  · rw [dd_us, pk_un (by decide), upw_ne (by omega)]
    exact h.loud
  · rw [dd_us, pk_un (by decide), upw_ne (by omega)]
    exact h.stray
  · rw [dd_us, pk_un (by decide), upw_ne (by omega)]
    exact h.beat
  · rw [dd_us, pk_un (by decide), upw_ne (by omega)]
    exact h.night
  · rw [dd_us, pk_un (by decide), upw_ne (by omega)]
    exact h.seed
theorem RW.uTexts {w : Nat → Nat} {I : Nat → Nat → Int32} {L : Nat → Nat → Int64} (h : RW w I L 1) {v : Nat} : RW (upw w (2) v) (dd_u I 1 (upd (I 1) 11 (nI v))) (L) 1 := by
  refine RW.mk1 ?_ ?_ ?_ ?_ ?_ ?_ ?_ ?_ ?_ ?_ ?_ ?_ ?_ ?_ ?_ ?_ ?_ ?_ ?_
  · intro c' hc'
    rw [upw_ne (by omega)]
    exact h.tree hc'
  · intro x hx
    rw [dd_un (by decide), upw_ne (by omega)]
    exact h.fern hx
  · intro x hx
    rw [dd_un (by decide), upw_ne (by omega)]
    exact h.note hx
  · intro x hx
    rw [dd_un (by decide), upw_ne (by omega)]
    exact h.cell hx
  · intro x hx
    rw [dd_un (by decide), upw_ne (by omega)]
    exact h.sung hx
  · intro x hx
    rw [dd_un (by decide), upw_ne (by omega)]
    exact h.ear hx
  · intro x hx
    rw [dd_un (by decide), upw_ne (by omega)]
    exact h.bad hx
  · intro i hi
    rw [dd_us, pk_un (by decide)]
    by_cases q : i < 6
    · rw [upw_ne (by omega)]; exact h.isin hi
    · rw [decide_eq_false q, Bool.false_and]
      have := h.isin hi
      rw [decide_eq_false q, Bool.false_and] at this
      exact this
  · intro a ha
    rw [upw_ne (by omega)] at ha
    rw [dd_un (by decide), upw_ne (by omega), pck_up (by omega)]
    exact h.row ha
  · rw [dd_us, pk_un (by decide), upw_ne (by omega)]
    exact h.rows
  · rw [dd_us, pk_un (by decide), upw_ne (by omega)]
    exact h.parts
  · rw [dd_us, pk_un (by decide), upw_ne (by omega)]
    exact h.boys
  · rw [dd_us, pk_us, upw_eq]
  · rw [dd_us, pk_un (by decide), upw_ne (by omega)]
    exact h.fire
  · rw [dd_us, pk_un (by decide), upw_ne (by omega)]
    exact h.loud
  · rw [dd_us, pk_un (by decide), upw_ne (by omega)]
    exact h.stray
  · rw [dd_us, pk_un (by decide), upw_ne (by omega)]
    exact h.beat
  · rw [dd_us, pk_un (by decide), upw_ne (by omega)]
    exact h.night
  · rw [dd_us, pk_un (by decide), upw_ne (by omega)]
    exact h.seed
theorem RW.uFire {w : Nat → Nat} {I : Nat → Nat → Int32} {L : Nat → Nat → Int64} (h : RW w I L 1) {v : Nat} : RW (upw w (4) v) (dd_u I 1 (upd (I 1) 13 (nI v))) (L) 1 := by
  refine RW.mk1 ?_ ?_ ?_ ?_ ?_ ?_ ?_ ?_ ?_ ?_ ?_ ?_ ?_ ?_ ?_ ?_ ?_ ?_ ?_
  · intro c' hc'
    rw [upw_ne (by omega)]
    exact h.tree hc'
  · intro x hx
    rw [dd_un (by decide), upw_ne (by omega)]
    exact h.fern hx
  · intro x hx
    rw [dd_un (by decide), upw_ne (by omega)]
    exact h.note hx
  · intro x hx
    rw [dd_un (by decide), upw_ne (by omega)]
    exact h.cell hx
  · intro x hx
    rw [dd_un (by decide), upw_ne (by omega)]
    exact h.sung hx
  · intro x hx
    rw [dd_un (by decide), upw_ne (by omega)]
    exact h.ear hx
  · intro x hx
    rw [dd_un (by decide), upw_ne (by omega)]
    exact h.bad hx
  · intro i hi
    rw [dd_us, pk_un (by decide)]
    by_cases q : i < 6
    · rw [upw_ne (by omega)]; exact h.isin hi
    · rw [decide_eq_false q, Bool.false_and]
      have := h.isin hi
      rw [decide_eq_false q, Bool.false_and] at this
      exact this
  · intro a ha
    rw [upw_ne (by omega)] at ha
    rw [dd_un (by decide), upw_ne (by omega), pck_up (by omega)]
    exact h.row ha
  · rw [dd_us, pk_un (by decide), upw_ne (by omega)]
    exact h.rows
  · rw [dd_us, pk_un (by decide), upw_ne (by omega)]
    exact h.parts
  · rw [dd_us, pk_un (by decide), upw_ne (by omega)]
    exact h.boys
  · rw [dd_us, pk_un (by decide), upw_ne (by omega)]
    exact h.texts
  · rw [dd_us, pk_us, upw_eq]
  · rw [dd_us, pk_un (by decide), upw_ne (by omega)]
    exact h.loud
  · rw [dd_us, pk_un (by decide), upw_ne (by omega)]
    exact h.stray
  · rw [dd_us, pk_un (by decide), upw_ne (by omega)]
    exact h.beat
  · rw [dd_us, pk_un (by decide), upw_ne (by omega)]
    exact h.night
  · rw [dd_us, pk_un (by decide), upw_ne (by omega)]
    exact h.seed
theorem RW.uLoud {w : Nat → Nat} {I : Nat → Nat → Int32} {L : Nat → Nat → Int64} (h : RW w I L 1) {v : Nat} : RW (upw w (5) v) (dd_u I 1 (upd (I 1) 14 (nI v))) (L) 1 := by
  refine RW.mk1 ?_ ?_ ?_ ?_ ?_ ?_ ?_ ?_ ?_ ?_ ?_ ?_ ?_ ?_ ?_ ?_ ?_ ?_ ?_
  · intro c' hc'
    rw [upw_ne (by omega)]
    exact h.tree hc'
  · intro x hx
    rw [dd_un (by decide), upw_ne (by omega)]
    exact h.fern hx
  · intro x hx
    rw [dd_un (by decide), upw_ne (by omega)]
    exact h.note hx
  · intro x hx
    rw [dd_un (by decide), upw_ne (by omega)]
    exact h.cell hx
  · intro x hx
    rw [dd_un (by decide), upw_ne (by omega)]
    exact h.sung hx
  · intro x hx
    rw [dd_un (by decide), upw_ne (by omega)]
    exact h.ear hx
  · intro x hx
    rw [dd_un (by decide), upw_ne (by omega)]
    exact h.bad hx
  · intro i hi
    rw [dd_us, pk_un (by decide)]
    by_cases q : i < 6
    · rw [upw_ne (by omega)]; exact h.isin hi
    · rw [decide_eq_false q, Bool.false_and]
      have := h.isin hi
      rw [decide_eq_false q, Bool.false_and] at this
      exact this
  · intro a ha
    rw [upw_ne (by omega)] at ha
    rw [dd_un (by decide), upw_ne (by omega), pck_up (by omega)]
    exact h.row ha
  · rw [dd_us, pk_un (by decide), upw_ne (by omega)]
    exact h.rows
  · rw [dd_us, pk_un (by decide), upw_ne (by omega)]
    exact h.parts
  · rw [dd_us, pk_un (by decide), upw_ne (by omega)]
    exact h.boys
  · rw [dd_us, pk_un (by decide), upw_ne (by omega)]
    exact h.texts
  · rw [dd_us, pk_un (by decide), upw_ne (by omega)]
    exact h.fire
  · rw [dd_us, pk_us, upw_eq]
  · rw [dd_us, pk_un (by decide), upw_ne (by omega)]
    exact h.stray
  · rw [dd_us, pk_un (by decide), upw_ne (by omega)]
    exact h.beat
  · rw [dd_us, pk_un (by decide), upw_ne (by omega)]
    exact h.night
  · rw [dd_us, pk_un (by decide), upw_ne (by omega)]
    exact h.seed
theorem RW.uStray {w : Nat → Nat} {I : Nat → Nat → Int32} {L : Nat → Nat → Int64} (h : RW w I L 1) {v : Nat} : RW (upw w (6) v) (dd_u I 1 (upd (I 1) 15 (nI v))) (L) 1 := by
  refine RW.mk1 ?_ ?_ ?_ ?_ ?_ ?_ ?_ ?_ ?_ ?_ ?_ ?_ ?_ ?_ ?_ ?_ ?_ ?_ ?_
  · intro c' hc'
    rw [upw_ne (by omega)]
    exact h.tree hc'
  · intro x hx
    rw [dd_un (by decide), upw_ne (by omega)]
    exact h.fern hx
  · intro x hx
    rw [dd_un (by decide), upw_ne (by omega)]
    exact h.note hx
  · intro x hx
    rw [dd_un (by decide), upw_ne (by omega)]
    exact h.cell hx
  · intro x hx
    rw [dd_un (by decide), upw_ne (by omega)]
    exact h.sung hx
  · intro x hx
    rw [dd_un (by decide), upw_ne (by omega)]
    exact h.ear hx
  · intro x hx
    rw [dd_un (by decide), upw_ne (by omega)]
    exact h.bad hx
  · intro i hi
    rw [dd_us, pk_un (by decide)]
    by_cases q : i < 6
    · rw [upw_ne (by omega)]; exact h.isin hi
    · rw [decide_eq_false q, Bool.false_and]
      have := h.isin hi
      rw [decide_eq_false q, Bool.false_and] at this
      exact this
  · intro a ha
    rw [upw_ne (by omega)] at ha
    rw [dd_un (by decide), upw_ne (by omega), pck_up (by omega)]
    exact h.row ha
  · rw [dd_us, pk_un (by decide), upw_ne (by omega)]
    exact h.rows
  · rw [dd_us, pk_un (by decide), upw_ne (by omega)]
    exact h.parts
  · rw [dd_us, pk_un (by decide), upw_ne (by omega)]
    exact h.boys
  · rw [dd_us, pk_un (by decide), upw_ne (by omega)]
    exact h.texts
  · rw [dd_us, pk_un (by decide), upw_ne (by omega)]
    exact h.fire
  · rw [dd_us, pk_un (by decide), upw_ne (by omega)]
    exact h.loud
  · rw [dd_us, pk_us, upw_eq]
  · rw [dd_us, pk_un (by decide), upw_ne (by omega)]
    exact h.beat
  · rw [dd_us, pk_un (by decide), upw_ne (by omega)]
    exact h.night
  · rw [dd_us, pk_un (by decide), upw_ne (by omega)]
    exact h.seed
theorem RW.uBeat {w : Nat → Nat} {I : Nat → Nat → Int32} {L : Nat → Nat → Int64} (h : RW w I L 1) {v : Nat} : RW (upw w (7) v) (dd_u I 1 (upd (I 1) 16 (nI v))) (L) 1 := by
  refine RW.mk1 ?_ ?_ ?_ ?_ ?_ ?_ ?_ ?_ ?_ ?_ ?_ ?_ ?_ ?_ ?_ ?_ ?_ ?_ ?_
  · intro c' hc'
    rw [upw_ne (by omega)]
    exact h.tree hc'
  · intro x hx
    rw [dd_un (by decide), upw_ne (by omega)]
    exact h.fern hx
  · intro x hx
    rw [dd_un (by decide), upw_ne (by omega)]
    exact h.note hx
  · intro x hx
    rw [dd_un (by decide), upw_ne (by omega)]
    exact h.cell hx
  · intro x hx
    rw [dd_un (by decide), upw_ne (by omega)]
    exact h.sung hx
  · intro x hx
    rw [dd_un (by decide), upw_ne (by omega)]
    exact h.ear hx
  · intro x hx
    rw [dd_un (by decide), upw_ne (by omega)]
    exact h.bad hx
  · intro i hi
    rw [dd_us, pk_un (by decide)]
    by_cases q : i < 6
    · rw [upw_ne (by omega)]; exact h.isin hi
    · rw [decide_eq_false q, Bool.false_and]
      have := h.isin hi
      rw [decide_eq_false q, Bool.false_and] at this
      exact this
  · intro a ha
    rw [upw_ne (by omega)] at ha
    rw [dd_un (by decide), upw_ne (by omega), pck_up (by omega)]
    exact h.row ha
  · rw [dd_us, pk_un (by decide), upw_ne (by omega)]
    exact h.rows
  · rw [dd_us, pk_un (by decide), upw_ne (by omega)]
    exact h.parts
  · rw [dd_us, pk_un (by decide), upw_ne (by omega)]
    exact h.boys
  · rw [dd_us, pk_un (by decide), upw_ne (by omega)]
    exact h.texts
  · rw [dd_us, pk_un (by decide), upw_ne (by omega)]
    exact h.fire
  · rw [dd_us, pk_un (by decide), upw_ne (by omega)]
    exact h.loud
  · rw [dd_us, pk_un (by decide), upw_ne (by omega)]
    exact h.stray
  · rw [dd_us, pk_us, upw_eq]
  · rw [dd_us, pk_un (by decide), upw_ne (by omega)]
    exact h.night
  · rw [dd_us, pk_un (by decide), upw_ne (by omega)]
    exact h.seed
theorem RW.uNight {w : Nat → Nat} {I : Nat → Nat → Int32} {L : Nat → Nat → Int64} (h : RW w I L 1) {v : Nat} : RW (upw w (8) v) (dd_u I 1 (upd (I 1) 17 (nI v))) (L) 1 := by
  refine RW.mk1 ?_ ?_ ?_ ?_ ?_ ?_ ?_ ?_ ?_ ?_ ?_ ?_ ?_ ?_ ?_ ?_ ?_ ?_ ?_
  · intro c' hc'
    rw [upw_ne (by omega)]
    exact h.tree hc'
  · intro x hx
    rw [dd_un (by decide), upw_ne (by omega)]
    exact h.fern hx
  · intro x hx
    rw [dd_un (by decide), upw_ne (by omega)]
    exact h.note hx
  · intro x hx
    rw [dd_un (by decide), upw_ne (by omega)]
    exact h.cell hx
  · intro x hx
    rw [dd_un (by decide), upw_ne (by omega)]
    exact h.sung hx
  · intro x hx
    rw [dd_un (by decide), upw_ne (by omega)]
    exact h.ear hx
  · intro x hx
    rw [dd_un (by decide), upw_ne (by omega)]
    exact h.bad hx
  · intro i hi
    rw [dd_us, pk_un (by decide)]
    by_cases q : i < 6
    · rw [upw_ne (by omega)]; exact h.isin hi
    · rw [decide_eq_false q, Bool.false_and]
      have := h.isin hi
      rw [decide_eq_false q, Bool.false_and] at this
      exact this
  · intro a ha
    rw [upw_ne (by omega)] at ha
    rw [dd_un (by decide), upw_ne (by omega), pck_up (by omega)]
    exact h.row ha
  · rw [dd_us, pk_un (by decide), upw_ne (by omega)]
    exact h.rows
  · rw [dd_us, pk_un (by decide), upw_ne (by omega)]
    exact h.parts
  · rw [dd_us, pk_un (by decide), upw_ne (by omega)]
    exact h.boys
  · rw [dd_us, pk_un (by decide), upw_ne (by omega)]
    exact h.texts
  · rw [dd_us, pk_un (by decide), upw_ne (by omega)]
    exact h.fire
  · rw [dd_us, pk_un (by decide), upw_ne (by omega)]
    exact h.loud
  · rw [dd_us, pk_un (by decide), upw_ne (by omega)]
    exact h.stray
  · rw [dd_us, pk_un (by decide), upw_ne (by omega)]
    exact h.beat
  · rw [dd_us, pk_us, upw_eq]
  · rw [dd_us, pk_un (by decide), upw_ne (by omega)]
    exact h.seed
theorem RW.uSeed {w : Nat → Nat} {I : Nat → Nat → Int32} {L : Nat → Nat → Int64} (h : RW w I L 1) {v : Nat} : RW (upw w (10) v) (dd_u I 1 (upd (I 1) 18 (nI v))) (L) 1 := by
  refine RW.mk1 ?_ ?_ ?_ ?_ ?_ ?_ ?_ ?_ ?_ ?_ ?_ ?_ ?_ ?_ ?_ ?_ ?_ ?_ ?_
  · intro c' hc'
    rw [upw_ne (by omega)]
    exact h.tree hc'
  · intro x hx
    rw [dd_un (by decide), upw_ne (by omega)]
    exact h.fern hx
  · intro x hx
    rw [dd_un (by decide), upw_ne (by omega)]
    exact h.note hx
  · intro x hx
    rw [dd_un (by decide), upw_ne (by omega)]
    exact h.cell hx
  · intro x hx
    rw [dd_un (by decide), upw_ne (by omega)]
    exact h.sung hx
  · intro x hx
    rw [dd_un (by decide), upw_ne (by omega)]
    exact h.ear hx
  · intro x hx
    rw [dd_un (by decide), upw_ne (by omega)]
    exact h.bad hx
  · intro i hi
    rw [dd_us, pk_un (by decide)]
    by_cases q : i < 6
    · rw [upw_ne (by omega)]; exact h.isin hi
    · rw [decide_eq_false q, Bool.false_and]
      have := h.isin hi
      rw [decide_eq_false q, Bool.false_and] at this
      exact this
  · intro a ha
    rw [upw_ne (by omega)] at ha
    rw [dd_un (by decide), upw_ne (by omega), pck_up (by omega)]
    exact h.row ha
  · rw [dd_us, pk_un (by decide), upw_ne (by omega)]
    exact h.rows
  · rw [dd_us, pk_un (by decide), upw_ne (by omega)]
    exact h.parts
  · rw [dd_us, pk_un (by decide), upw_ne (by omega)]
    exact h.boys
  · rw [dd_us, pk_un (by decide), upw_ne (by omega)]
    exact h.texts
  · rw [dd_us, pk_un (by decide), upw_ne (by omega)]
    exact h.fire
  · rw [dd_us, pk_un (by decide), upw_ne (by omega)]
    exact h.loud
  · rw [dd_us, pk_un (by decide), upw_ne (by omega)]
    exact h.stray
  · rw [dd_us, pk_un (by decide), upw_ne (by omega)]
    exact h.beat
  · rw [dd_us, pk_un (by decide), upw_ne (by omega)]
    exact h.night
  · rw [dd_us, pk_us, upw_eq]
