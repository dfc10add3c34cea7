/-! The class: rows, draws, real beats -/
theorem n_or (a b : Nat) : nI a ||| nI b = nI (a ||| b) := bX_ext fun i hi => by rw [bX_or, bX_n hi, bX_n hi, bX_n hi, Nat.testBit_or]
theorem n_and (a b : Nat) : nI a &&& nI b = nI (a &&& b) := bX_ext fun i hi => by rw [bX_and, bX_n hi, bX_n hi, bX_n hi, Nat.testBit_and]
theorem or_lo {a b k : Nat} (h : b < 2 ^ k) : a * 2 ^ k ||| b = a * 2 ^ k + b := by
  rw [Nat.mul_comm]
  exact (Nat.two_pow_add_eq_or_of_lt h a).symm
theorem packI {nt bt b x cl : Nat} (h1 : nt ≤ 9999) (h2 : bt < 8) (h3 : b < 8) (h4 : x ≤ 1) (h5 : cl < 64) : (((nI nt <<< ((13 : Int32) &&& 31) ||| nI bt <<< ((10 : Int32) &&& 31)) ||| nI b <<< ((7 : Int32) &&& 31)) ||| nI x <<< ((6 : Int32) &&& 31)) ||| nI cl = nI (nt * 8192 + bt * 1024 + b * 128 + x * 64 + cl) := by
  rw [pk_shlN _ 13 (by decide) (by omega), pk_shlN _ 10 (by decide) (by omega), pk_shlN _ 7 (by decide) (by omega), pk_shlN _ 6 (by decide) (by omega), n_or, n_or, n_or, n_or]
  congr 1
  have e1 : nt * 2 ^ 13 ||| bt * 2 ^ 10 = (nt * 8 + bt) * 2 ^ 10 := by rw [or_lo (by omega)]; omega
  have e2 : (nt * 8 + bt) * 2 ^ 10 ||| b * 2 ^ 7 = ((nt * 8 + bt) * 8 + b) * 2 ^ 7 := by rw [or_lo (by omega)]; omega
  have e3 : ((nt * 8 + bt) * 8 + b) * 2 ^ 7 ||| x * 2 ^ 6 = (((nt * 8 + bt) * 8 + b) * 2 + x) * 2 ^ 6 := by rw [or_lo (by omega)]; omega
  rw [e1, e2, e3, or_lo (by omega)]
  omega
theorem RW_tel {w : Nat → Nat} {I : Nat → Nat → Int32} {L : Nat → Nat → Int64} (h : RW w I L 1) {b x : Nat} {f : Nat → Int32} (h9 : w 9 ≤ 60) (h0 : f (min 60 (w 9 + 1) - 1) = nI (w 8 * 8192 + w 7 * 1024 + b * 128 + x * 64 + w (187 + 5 * b))) (h1 : ∀ a, a + 1 < min 60 (w 9 + 1) → f (min 60 (w 9 + 1) - 1 - (a + 1)) = nI (pck w a)) : RW (tel w b x) (dd_u (dd_u I 8 f) 1 (upd (I 1) 8 (nI (min 60 (w 9 + 1))))) L 1 := by
  refine RW.mk1 ?_ ?_ ?_ ?_ ?_ ?_ ?_ ?_ ?_ ?_ ?_ ?_ ?_ ?_ ?_ ?_ ?_ ?_ ?_
  · intro c hc
    rw [tel_lo (by omega) (by omega)]
    exact h.tree hc
  · intro c hc
    rw [dd_un (by decide), dd_un (by decide), tel_lo (by omega) (by omega)]
    exact h.fern hc
  · intro c hc
    rw [dd_un (by decide), dd_un (by decide), tel_lo (by omega) (by omega)]
    exact h.note hc
  · intro c hc
    rw [dd_un (by decide), dd_un (by decide), tel_lo (by omega) (by omega)]
    exact h.cell hc
  · intro c hc
    rw [dd_un (by decide), dd_un (by decide), tel_lo (by omega) (by omega)]
    exact h.sung hc
  · intro c hc
    rw [dd_un (by decide), dd_un (by decide), tel_lo (by omega) (by omega)]
    exact h.ear hc
  · intro c hc
    rw [dd_un (by decide), dd_un (by decide), tel_lo (by omega) (by omega)]
    exact h.bad hc
  · intro i hi
    rw [dd_us, pk_un (by decide)]
    by_cases q : i < 6
    · rw [tel_lo (by omega) (by omega)]; exact h.isin hi
    · rw [decide_eq_false q, Bool.false_and]
      have := h.isin hi
      rw [decide_eq_false q, Bool.false_and] at this
      exact this
  · intro a ha
    rw [tel_9] at ha ⊢
    rw [dd_un (by decide), dd_us]
    cases a with
    | zero =>
      rw [Nat.sub_zero, h0]
      rfl
    | succ a =>
      rw [h1 a ha]
      refine congrArg nI ?_
      unfold pck tel
      have e : ∀ k, k < 5 → ¬ (222 + 5 * (a + 1) + k = 9) ∧ ¬ (222 + 5 * (a + 1) + k < 222 ∨ 522 ≤ 222 + 5 * (a + 1) + k) ∧ ¬ 222 + 5 * (a + 1) + k = 222 ∧ ¬ 222 + 5 * (a + 1) + k = 223 ∧ ¬ 222 + 5 * (a + 1) + k = 224 ∧ ¬ 222 + 5 * (a + 1) + k = 225 ∧ ¬ 222 + 5 * (a + 1) + k = 226 ∧ 222 + 5 * (a + 1) + k - 5 = 222 + 5 * a + k := by
        intro k hk
        refine ⟨?_, ?_, ?_, ?_, ?_, ?_, ?_, ?_⟩ <;> omega
      have g : ∀ k, k < 5 → (if 222 + 5 * (a + 1) + k = 9 then min 60 (w 9 + 1) else if 222 + 5 * (a + 1) + k < 222 ∨ 522 ≤ 222 + 5 * (a + 1) + k then w (222 + 5 * (a + 1) + k) else if 222 + 5 * (a + 1) + k = 222 then w 8 else if 222 + 5 * (a + 1) + k = 223 then w 7 else if 222 + 5 * (a + 1) + k = 224 then b else if 222 + 5 * (a + 1) + k = 225 then x else if 222 + 5 * (a + 1) + k = 226 then w (187 + 5 * b) else w (222 + 5 * (a + 1) + k - 5)) = w (222 + 5 * a + k) := by
        intro k hk
        obtain ⟨e1, e2, e3, e4, e5, e6, e7, e8⟩ := e k hk
        rw [if_neg e1, if_neg e2, if_neg e3, if_neg e4, if_neg e5, if_neg e6, if_neg e7, e8]
      have g0 := g 0 (by omega)
      simp only [Nat.add_zero] at g0
      rw [g0, g 1 (by omega), g 2 (by omega), g 3 (by omega), g 4 (by omega)]
  · rw [dd_us, pk_us, tel_9]
  · rw [dd_us, pk_un (by decide), tel_lo (by omega) (by omega)]
    exact h.parts
  · rw [dd_us, pk_un (by decide), tel_lo (by omega) (by omega)]
    exact h.boys
  · rw [dd_us, pk_un (by decide), tel_lo (by omega) (by omega)]
    exact h.texts
  · rw [dd_us, pk_un (by decide), tel_lo (by omega) (by omega)]
    exact h.fire
  · rw [dd_us, pk_un (by decide), tel_lo (by omega) (by omega)]
    exact h.loud
  · rw [dd_us, pk_un (by decide), tel_lo (by omega) (by omega)]
    exact h.stray
  · rw [dd_us, pk_un (by decide), tel_lo (by omega) (by omega)]
    exact h.beat
  · rw [dd_us, pk_un (by decide), tel_lo (by omega) (by omega)]
    exact h.night
  · rw [dd_us, pk_un (by decide), tel_lo (by omega) (by omega)]
    exact h.seed
theorem C_writeRow {d Ln c s : Nat} {I : Nat → Nat → Int32} {L : Nat → Nat → Int64} {K : (Nat → Nat → Int32) → (Nat → Nat → Int64) → Prop} {w : Nat → Nat} {b x : Nat} (hd : 28 ≤ d) (hC : RC w I L) (hO : OKW w) (hb : b < 6) (hx : x ≤ 1) (kk : ∀ I', RC (tel w b x) I' L → FR 25 [1, 8] [] I I' → K I' L) : dd_Ev d m_X8_writeRow [.ref 1, .int (nI b), .int (nI x)] (sM Ln I L c s) (dd_RV Ln c s K) := by
  obtain ⟨w0, w1, w2, w4, w5, w6, w7, w8, w9, w10⟩ := hO.1
  obtain ⟨b0, b1, b2, b3, b4, b5⟩ := hO.2.2.2.1 b (by omega)
  have fr : ∀ (f g : Nat → Int32), FR 25 [1, 8] [] I (dd_u (dd_u I 8 f) 1 g) := fun f g => ((FR.refl I).u (by decide) (by decide)).u (by decide) (by decide)
  refine w_X8_writeRow_0 hd ?_
  have tb : tn (nI b) = b := nI_clamp (by omega)
  rw [tb, hC.cell hb, hC.night, hC.beat, hC.rows, packI w8 w7 (by omega) hx b1]
  rw [show (60 : Int32) = nI 60 from rfl, nI_eq (by omega) (by omega)]
  refine ⟨fun q => ⟨⟨nI_pos' (by omega), hb⟩, ?_⟩, fun q => ⟨⟨nI_pos' (by omega), hb⟩, ?_⟩⟩
  · rw [show nI (w 9) - 1 = nI (w 9 - 1) from pk_sub (a := w 9) (b := 1) (by omega), nI_1]
    have t9 : tn (nI (w 9 - 1)) = w 9 - 1 := nI_clamp (by omega)
    rw [t9]
    refine ⟨⟨nI_pos' (by omega), by omega⟩, ?_⟩
    have e9 : w 9 - 1 + 1 = min 60 (w 9 + 1) := by omega
    rw [e9, upd_uu, dd_u_sw (by decide : (1 : Nat) ≠ 8), dd_u_u, dd_u_u]
    refine dd_qV (kk _ (RW_tel hC w9 ?_ ?_) (fr _ _))
    · rw [show min 60 (w 9 + 1) - 1 = w 9 - 1 by omega, pk_us]
    · intro a ha
      rw [pk_un (by omega), pk_cpy_in (by omega) (by omega), show 1 + (min 60 (w 9 + 1) - 1 - (a + 1) - 0) = w 9 - 1 - a by omega]
      exact hC.row (by omega)
  · have t9 : tn (nI (w 9)) = w 9 := nI_clamp (by omega)
    rw [t9, nI_1]
    refine ⟨⟨nI_pos' (by omega), by omega⟩, ?_⟩
    have e9 : w 9 + 1 = min 60 (w 9 + 1) := by omega
    rw [e9]
    refine dd_qV (kk _ (RW_tel hC w9 ?_ ?_) (fr _ _))
    · rw [show min 60 (w 9 + 1) - 1 = w 9 by omega, pk_us]
    · intro a ha
      rw [pk_un (by omega), show min 60 (w 9 + 1) - 1 - (a + 1) = w 9 - 1 - a by omega]
      exact hC.row (by omega)
/-- a boy put into a cell -/
def pbw (w : Nat → Nat) (b x : Nat) : Nat → Nat := upw (upw w (187 + 5 * b) x) (187 + 5 * b + 3) (if x = w 4 then 1 else 0)
theorem C_putBoy {d Ln c s : Nat} {I : Nat → Nat → Int32} {L : Nat → Nat → Int64} {K : (Nat → Nat → Int32) → (Nat → Nat → Int64) → Prop} {w : Nat → Nat} {b x : Nat} (hd : 28 ≤ d) (hC : RC w I L) (h4 : w 4 < 64) (hb : b < 6) (hx : x < 64) (kk : ∀ I', RC (pbw w b x) I' L → FR 25 [1, 4] [] I I' → K I' L) : dd_Ev d m_X8_putBoy [.ref 1, .int (nI b), .int (nI x)] (sM Ln I L c s) (dd_RV Ln c s K) := by
  refine w_X8_putBoy_0 hd ?_
  have tb : tn (nI b) = b := nI_clamp (by omega)
  have fr : ∀ (f g : Nat → Int32), FR 25 [1, 4] [] I (dd_u (dd_u I 4 f) 1 g) := fun f g => ((FR.refl I).u (by decide) (by decide)).u (by decide) (by decide)
  have i1 : (dd_u I 4 (upd (I 4) b (nI x))) 1 = I 1 := dd_un (by decide)
  rw [tb, hC.fire, nI_eq (by omega) (by omega)]
  refine ⟨⟨nI_pos' (by omega), hb⟩, fun q => ?_, fun q => ?_⟩
  · refine dd_qV (kk _ ?_ (fr _ _))
    have := (hC.uCell (v := x) hb).uIn (v := 1) (m := I 1 12 ||| (1 : Int32) <<< (nI b &&& 31)) hb (fun i hi => by
      rw [bX_or, bX_one (by omega) hi, i1]
      by_cases e : i = b
      · rw [if_pos e, decide_eq_true e, Bool.or_true]; rfl
      · rw [if_neg e, decide_eq_false e, Bool.or_false])
    rw [i1] at this
    unfold pbw
    rw [if_pos q]
    exact this
  · refine dd_qV (kk _ ?_ (fr _ _))
    have := (hC.uCell (v := x) hb).uIn (v := 0) (m := I 1 12 &&& ((1 : Int32) <<< (nI b &&& 31) ^^^ (-1))) hb (fun i hi => by
      rw [bX_and, bX_not _ hi, bX_one (by omega) hi, i1]
      by_cases e : i = b
      · rw [if_pos e, decide_eq_true e, Bool.not_true, Bool.and_false]; rfl
      · rw [if_neg e, decide_eq_false e, Bool.not_false, Bool.and_true])
    rw [i1] at this
    unfold pbw
    rw [if_neg q]
    exact this
theorem ush16 {n : Nat} (h : n < 2 ^ 32) : ((nI n).toUInt32 >>> ((16 : Int32).toUInt32 &&& Int32.toUInt32 31)).toInt32 &&& 32767 = nI (n / 65536 % 32768) := by
  rw [pk_ushrN h 16 16 (by decide), pk_andN (by omega) 15 rfl]
theorem C_takeDraw {d Ln c s : Nat} {I : Nat → Nat → Int32} {L : Nat → Nat → Int64} {K : Int32 → (Nat → Nat → Int32) → (Nat → Nat → Int64) → Prop} {w : Nat → Nat} (hd : 28 ≤ d) (hC : RC w I L) (kk : ∀ I', RC (drw w) I' L → FR 25 [1] [] I I' → K (nI ((1103515245 * w 10 + 12345) % 2 ^ 32 / 65536 % 32768)) I' L) : dd_Ev d m_X8_takeDraw [.ref 1] (sM Ln I L c s) (dd_RI Ln c s K) := by
  refine w_X8_takeDraw_0 hd ?_
  have e : (1103515245 : Int32) * I 1 18 + 12345 = nI ((1103515245 * w 10 + 12345) % 2 ^ 32) := by
    rw [hC.seed, li_1103515245, li_12345, pk_mul, nI_add, nI_mod]
  rw [e, ush16 (Nat.mod_lt _ (by decide))]
  exact dd_qi (kk _ hC.uSeed ((FR.refl I).u (by decide) (by decide)))
theorem C_endBeat {d Ln c s : Nat} {I : Nat → Nat → Int32} {L : Nat → Nat → Int64} {K : (Nat → Nat → Int32) → (Nat → Nat → Int64) → Prop} {w : Nat → Nat} (hd : 28 ≤ d) (hC : RC w I L) (h7 : w 7 < 8) (h8 : w 8 ≤ 9999) (kk : ∀ I', RC (bend w) I' L → FR 25 [1] [] I I' → K I' L) : dd_Ev d m_X8_endBeat [.ref 1] (sM Ln I L c s) (dd_RV Ln c s K) := by
  refine w_X8_endBeat_0 hd ?_
  have e : (I 1 16 + 1) &&& 7 = nI ((w 7 + 1) % 8) := by rw [hC.beat, nI_1, and7 (by omega)]
  have e8 : I 1 17 + 1 = nI (w 8 + 1) := by rw [hC.night, nI_1]
  rw [e, e8]
  unfold bend at kk
  rw [show (0 : Int32) = nI 0 from rfl, nI_eq (by omega) (by omega), li_9999, dd_u_u]
  simp (disch := omega) only [nI_ltI, ite_n]
  refine ⟨fun q => ?_, fun q => ?_⟩
  · rw [if_neg (by omega)] at kk
    refine dd_qV (kk _ ?_ ((FR.refl I).u (by decide) (by decide)))
    have h1 := (hC.uBeat (v := (w 7 + 1) % 8)).uNight (v := if 9999 < w 8 + 1 then 9999 else w 8 + 1)
    rw [dd_us, dd_u_u] at h1
    rw [q] at h1 ⊢
    rw [show (if 9999 < w 8 + 1 then 9999 else w 8 + 1) = min 9999 (w 8 + 1) by split <;> omega] at h1 ⊢
    exact h1
  · rw [if_pos (by omega)] at kk
    refine dd_qV (kk _ ?_ ((FR.refl I).u (by decide) (by decide)))
    have h1 := hC.uBeat (v := (w 7 + 1) % 8)
    rw [show (w 7 + 1) % 8 = w 7 + 1 by omega] at h1 ⊢
    exact h1
