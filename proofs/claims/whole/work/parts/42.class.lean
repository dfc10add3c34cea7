/-! The class: one who goes by ear -/
def RVq (k num part ear bad beat loud : Nat) (row : Nat → Nat) (I : Nat → Nat → Int32) : Prop :=
  I (k + 1) 0 = nI num ∧ I (k + 1) 1 = nI part ∧ I (k + 1) 2 = nI ear ∧ I (k + 1) 6 = nI bad ∧ I (k + 1) 7 = nI beat ∧ (∀ j, j < 8 → I (k + 2) j = nI (row j)) ∧ I k 5 = nI loud
def RV (k num part ear bad beat loud : Nat) (row : Nat → Nat) (cell fire : Nat) (I : Nat → Nat → Int32) : Prop :=
  RVq k num part ear bad beat loud row I ∧ I (k + 1) 3 = nI (cell % 8) ∧ I (k + 1) 4 = nI (cell / 8) ∧ I (k + 1) 5 = nI (gap cell fire) ∧ I k 4 = nI cell
theorem RV.facts {k num part ear bad beat loud : Nat} {row : Nat → Nat} {cell fire : Nat} {I : Nat → Nat → Int32} (h : RV k num part ear bad beat loud row cell fire I) : ∀ i, i < 8 → I (k + 1) i = nI (vF num part ear bad beat cell fire i) := by
  obtain ⟨⟨h0, h1, h2, h6, h7, _, _⟩, h3, h4, h5, _⟩ := h
  intro i hi
  have e : i = 0 ∨ i = 1 ∨ i = 2 ∨ i = 3 ∨ i = 4 ∨ i = 5 ∨ i = 6 ∨ i = 7 := by omega
  rcases e with rfl | rfl | rfl | rfl | rfl | rfl | rfl | rfl
  · exact h0
  · exact h1
  · exact h2
  · exact h3
  · exact h4
  · exact h5
  · exact h6
  · exact h7
theorem vF_le {num part ear bad beat cell fire : Nat} (h0 : num ≤ 6) (h1 : part < 6) (h2 : ear ≤ 15) (h6 : bad ≤ 99) (h7 : beat < 8) (hc : cell < 64) (hf : fire < 64) : ∀ i, i < 8 → vF num part ear bad beat cell fire i ≤ 999 := by
  intro i hi
  have := gap_lt hc hf
  unfold vF
  split
  · omega
  · split
    · omega
    · split
      · omega
      · split
        · omega
        · split
          · omega
          · split
            · omega
            · split <;> omega
/-- the law's codes and the law's lines say the same -/
def RLw (w : Nat → Nat) (I : Nat → Nat → Int32) : Prop := I 25 2 = (if w 3 = 1 then nI (w 522) else -1) ∧ ∃ n, n ≤ 400 ∧ I 25 1 = nI n ∧ ∀ (F : Nat → Nat) (sil fer : Bool), (∀ i, i < 8 → F i ≤ 999) → (wgA (I 26) F sil fer n).2.2.2.1 = nI (sumL w F sil fer 0) - nI (sumL w F sil fer 1) ∧ (wgA (I 26) F sil fer n).2.2.2.2 = decide (0 < sumL w F sil fer 2)
theorem RLw.of {w : Nat → Nat} {I I' : Nat → Nat → Int32} (h : RLw w I) (h1 : I' 25 1 = I 25 1) (h2 : I' 25 2 = I 25 2) (h3 : I' 26 = I 26) : RLw w I' := by
  unfold RLw at *
  rw [h1, h2, h3]
  exact h
theorem RLw.cong {w w' : Nat → Nat} {I : Nat → Nat → Int32} (h : RLw w I) (hs : sameL w w') : RLw w' I := by
  unfold RLw at *
  rw [hs.1, hs.2 522 (by omega)]
  obtain ⟨h1, n, h2, h3, h4⟩ := h
  refine ⟨h1, n, h2, h3, fun F sil fer hF => ?_⟩
  rw [sumL_cong hs, sumL_cong hs, sumL_cong hs]
  exact h4 F sil fer hF
abbrev FV (k : Nat) (I I' : Nat → Nat → Int32) : Prop := FR 25 [k, k + 1, k + 2] [3, 4] I I'
theorem RW.fr {w : Nat → Nat} {I I' : Nat → Nat → Int32} {L : Nat → Nat → Int64} {A B : List Nat} (h : RW w I L 1) (hF : FR 25 A B I I') (hA : ∀ j, 1 ≤ j → j < 9 → j ∉ A) : RW w I' L 1 := h.of (fun j h1 h2 => hF.1 j (hA j h1 h2) (by omega)) rfl
theorem RLw.fr {w : Nat → Nat} {I I' : Nat → Nat → Int32} {A : List Nat} (h : RLw w I) (hF : FR 25 A [3, 4] I I') (hA : 26 ∉ A) : RLw w I' := h.of (hF.2 1 (by decide)) (hF.2 2 (by decide)) (hF.1 26 hA (by decide))
theorem kA {k : Nat} (hk : k = 133 ∨ k = 136) : ∀ j, 1 ≤ j → j < 9 → j ∉ [k, k + 1, k + 2] := by
  intro j h1 h2
  simp only [List.mem_cons, List.not_mem_nil, or_false]
  omega
theorem kA26 {k : Nat} (hk : k = 133 ∨ k = 136) : 26 ∉ [k, k + 1, k + 2] := by
  simp only [List.mem_cons, List.not_mem_nil, or_false]
  omega
theorem C_standAt {d Ln c s : Nat} {I : Nat → Nat → Int32} {L : Nat → Nat → Int64} {K : (Nat → Nat → Int32) → (Nat → Nat → Int64) → Prop} {w : Nat → Nat} {k num part ear bad beat loud c1 : Nat} {row : Nat → Nat} (hd : 29 ≤ d) (hk : k = 133 ∨ k = 136) (hC : RC w I L) (h4 : w 4 < 64) (hV : RVq k num part ear bad beat loud row I) (hc : c1 < 64) (kk : ∀ I', RV k num part ear bad beat loud row c1 (w 4) I' → FV k I I' → K I' L) : dd_Ev d m_X6_standAt [.ref k, .int (nI c1)] (sM Ln I L c s) (dd_RV Ln c s K) := by
  refine w_X6_standAt_0 (by omega) hk ?_
  rw [hC.fire, and7 (by omega), shr3 (by omega)]
  refine C_apart (by omega) hc h4 ?_
  have n1 : k + 1 ≠ k := by omega
  have n2 : k ≠ k + 1 := by omega
  have n3 : k + 2 ≠ k := by omega
  have n4 : k + 2 ≠ k + 1 := by omega
  obtain ⟨v0, v1, v2, v6, v7, vr, vl⟩ := hV
  refine dd_qV (kk _ ⟨⟨?_, ?_, ?_, ?_, ?_, ?_, ?_⟩, ?_, ?_, ?_, ?_⟩ ?_)
  · simp (disch := omega) only [dd_us, dd_un, pk_us, pk_un]; exact v0
  · simp (disch := omega) only [dd_us, dd_un, pk_us, pk_un]; exact v1
  · simp (disch := omega) only [dd_us, dd_un, pk_us, pk_un]; exact v2
  · simp (disch := omega) only [dd_us, dd_un, pk_us, pk_un]; exact v6
  · simp (disch := omega) only [dd_us, dd_un, pk_us, pk_un]; exact v7
  · intro j hj
    simp (disch := omega) only [dd_us, dd_un, pk_us, pk_un]
    exact vr j hj
  · simp (disch := omega) only [dd_us, dd_un, pk_us, pk_un]; exact vl
  · simp (disch := omega) only [dd_us, dd_un, pk_us, pk_un]
  · simp (disch := omega) only [dd_us, dd_un, pk_us, pk_un]
  · simp (disch := omega) only [dd_us, dd_un, pk_us, pk_un]
  · simp (disch := omega) only [dd_us, dd_un, pk_us, pk_un]
  · have m0 : k ∈ [k, k + 1, k + 2] := by simp
    have m1 : k + 1 ∈ [k, k + 1, k + 2] := by simp
    exact ((((FR.refl I).u m0 (by omega)).u m1 (by omega)).u m1 (by omega)).u m1 (by omega)
theorem C_takePart {d Ln c s : Nat} {I : Nat → Nat → Int32} {L : Nat → Nat → Int64} {K : (Nat → Nat → Int32) → (Nat → Nat → Int64) → Prop} {w : Nat → Nat} {k num part ear bad beat loud p : Nat} {row : Nat → Nat} (hd : 28 ≤ d) (hk : k = 133 ∨ k = 136) (hC : RC w I L) (h0 : I (k + 1) 0 = nI num) (h2 : I (k + 1) 2 = nI ear) (h6 : I (k + 1) 6 = nI bad) (h7 : I (k + 1) 7 = nI beat) (h5 : I k 5 = nI loud) (hp : p < 6) (kk : ∀ I', RVq k num p ear bad beat loud (prow w p) I' → (I' k = I k) → (∀ i, i ≠ 1 → I' (k + 1) i = I (k + 1) i) → FV k I I' → K I' L) : dd_Ev d m_X6_takePart [.ref k, .int (nI p)] (sM Ln I L c s) (dd_RV Ln c s K) := by
  refine w_X6_takePart_0 hd hk ?_
  have e8 : nI p * 8 = nI (p * 8) := by rw [li_8, pk_mul]
  rw [e8]
  have c8 : tn (nI (p * 8)) = p * 8 := nI_clamp (by omega)
  rw [c8]
  refine ⟨⟨nI_pos' (by omega), by decide, by decide, ?_, by decide⟩, ?_⟩
  · rw [show tn 8 = 8 from by decide]; omega
  · refine dd_qV (kk _ ⟨?_, ?_, ?_, ?_, ?_, ?_, ?_⟩ ?_ ?_ ?_)
    · simp (disch := omega) only [dd_us, dd_un, pk_us, pk_un]; exact h0
    · simp (disch := omega) only [dd_us, dd_un, pk_us, pk_un]
    · simp (disch := omega) only [dd_us, dd_un, pk_us, pk_un]; exact h2
    · simp (disch := omega) only [dd_us, dd_un, pk_us, pk_un]; exact h6
    · simp (disch := omega) only [dd_us, dd_un, pk_us, pk_un]; exact h7
    · intro j hj
      rw [dd_us, pk_cpy_in (by omega) (by omega), hC.note (by omega)]
      unfold prow
      congr 2
      omega
    · simp (disch := omega) only [dd_us, dd_un, pk_us, pk_un]; exact h5
    · simp (disch := omega) only [dd_un]
    · intro i hi
      rw [dd_un (by omega), dd_us, pk_un hi]
    · have m1 : k + 1 ∈ [k, k + 1, k + 2] := by simp
      have m2 : k + 2 ∈ [k, k + 1, k + 2] := by simp
      exact ((FR.refl I).u m1 (by omega)).u m2 (by omega)
theorem C_become {d Ln c s : Nat} {I : Nat → Nat → Int32} {L : Nat → Nat → Int64} {K : (Nat → Nat → Int32) → (Nat → Nat → Int64) → Prop} {w : Nat → Nat} {k num part ear bad : Nat} (hd : 29 ≤ d) (hk : k = 133 ∨ k = 136) (hC : RC w I L) (hp : part < 6) (kk : ∀ I', RVq k num part ear bad (w 7) (w 5) (prow w part) I' → FV k I I' → K I' L) : dd_Ev d m_X6_become [.ref k, .int (nI num), .int (nI part), .int (nI ear), .int (nI bad)] (sM Ln I L c s) (dd_RV Ln c s K) := by
  refine w_X6_become_0 (by omega) hk ?_
  have m0 : k ∈ [k, k + 1, k + 2] := by simp
  have m1 : k + 1 ∈ [k, k + 1, k + 2] := by simp
  have hF : FV k I (dd_u (dd_u (dd_u (dd_u (dd_u I (k + 1) (upd (I (k + 1)) 0 (nI num))) (k + 1) (upd (upd (I (k + 1)) 0 (nI num)) 2 (nI ear))) (k + 1) (upd (upd (upd (I (k + 1)) 0 (nI num)) 2 (nI ear)) 6 (nI bad))) (k + 1) (upd (upd (upd (upd (I (k + 1)) 0 (nI num)) 2 (nI ear)) 6 (nI bad)) 7 (I 1 16))) k (upd (I k) 5 (I 1 14))) :=
    (((((FR.refl I).u m1 (by omega)).u m1 (by omega)).u m1 (by omega)).u m1 (by omega)).u m0 (by omega)
  refine C_takePart (w := w) (num := num) (part := 0) (ear := ear) (bad := bad) (beat := w 7) (loud := w 5) (row := fun _ => 0) (by omega) hk (hC.fr hF (kA hk)) ?_ ?_ ?_ ?_ ?_ hp fun I' h1 _ _ h2 => ?_
  · simp (disch := omega) only [dd_us, dd_un, pk_us, pk_un]
  · simp (disch := omega) only [dd_us, dd_un, pk_us, pk_un]
  · simp (disch := omega) only [dd_us, dd_un, pk_us, pk_un]
  · simp (disch := omega) only [dd_us, dd_un, pk_us, pk_un]; exact hC.beat
  · simp (disch := omega) only [dd_us, dd_un, pk_us, pk_un]; exact hC.loud
  · exact dd_qV (kk I' h1 (hF.trans h2))
/-- a boy as one who goes by ear -/
abbrev RVb (k : Nat) (w : Nat → Nat) (b : Nat) (I : Nat → Nat → Int32) : Prop := RV k b (w (187 + 5 * b + 1)) (w (187 + 5 * b + 2)) (w (187 + 5 * b + 4)) (w 7) (w 5) (prow w (w (187 + 5 * b + 1))) (w (187 + 5 * b)) (w 4) I
theorem C_follow {d Ln c s : Nat} {I : Nat → Nat → Int32} {L : Nat → Nat → Int64} {K : (Nat → Nat → Int32) → (Nat → Nat → Int64) → Prop} {w : Nat → Nat} {k b : Nat} (hd : 31 ≤ d) (hk : k = 133 ∨ k = 136) (hC : RC w I L) (hO : OKW w) (hb : b < 6) (kk : ∀ I', RVb k w b I' → FV k I I' → K I' L) : dd_Ev d m_X6_follow [.ref k, .int (nI b)] (sM Ln I L c s) (dd_RV Ln c s K) := by
  obtain ⟨b0, b1, b2, b3, b4, b5⟩ := hO.2.2.2.1 b (by omega)
  refine w_X6_follow_0 (by omega) hk ?_
  simp (disch := omega) only [Bool.true_eq_false, Bool.false_eq_true, true_and, and_true, true_implies, false_implies, implies_true, not_true_eq_false, not_false_eq_true, ne_eq, forall_const, tn, nI_clamp, hC.sung, hC.ear, hC.bad, nI_pos', ck_and]
  refine C_become (by omega) hk hC b2 fun I1 h1 f1 => ?_
  have hC1 := hC.fr f1 (kA hk)
  simp (disch := omega) only [Bool.true_eq_false, Bool.false_eq_true, true_and, and_true, true_implies, false_implies, implies_true, not_true_eq_false, not_false_eq_true, ne_eq, forall_const, hC1.cell, ck_and]
  refine C_standAt (by omega) hk hC1 hO.1.2.2.2.1 h1 b1 fun I2 h2 f2 => ?_
  exact dd_qV (kk I2 h2 (f1.trans f2))
theorem dd_sr {a b e g h : Nat} (ha : a < 2 ^ 26) (hb : b < 2 ^ 26) (he : e < 2 ^ 26) (hg : g < 2 ^ 26) (hh : h < 2 ^ 26) : (nI a + (nI b - nI e) - nI g < nI h) = (a + b < h + e + g) := by
  have e1 : nI a + (nI b - nI e) = nI (a + b) - nI e := by
    rw [Int32.sub_eq_add_neg, ← Int32.add_assoc, nI_add, ← Int32.sub_eq_add_neg]
  rw [e1, dd_sl (by omega) (by omega) (by omega) (by omega)]
theorem C_hears {d Ln c s : Nat} {I : Nat → Nat → Int32} {L : Nat → Nat → Int64} {K : Int32 → (Nat → Nat → Int32) → (Nat → Nat → Int64) → Prop} {w : Nat → Nat} {k num part ear bad beat loud cell note : Nat} {row : Nat → Nat} (hd : 29 ≤ d) (hk : k = 133 ∨ k = 136) (hC : RC w I L) (hO : OKW w) (hL : RLw w I) (hV : RV k num part ear bad beat loud row cell (w 4) I) (h0 : num ≤ 6) (h1 : part < 6) (h2 : ear ≤ 15) (h6 : bad ≤ 99) (h7 : beat < 8) (hl : loud ≤ 15) (hc : cell < 64) (hnt : note ≤ 9) (kk : ∀ I', I' 25 4 = bI (sts w (vF num part ear bad beat cell (w 4)) (w (75 + cell)) note) → FR 25 [] [3, 4] I I' → K (bI (hrs w (vF num part ear bad beat cell (w 4)) loud (w (75 + cell)) note)) I' L) : dd_Ev d m_X6_hears [.ref k, .int (nI note)] (sM Ln I L c s) (dd_RI Ln c s K) := by
  have h4 := hO.1.2.2.2.1
  have hf := (hO.2.1 cell hc).2
  have hg := gap_lt hc h4
  obtain ⟨l1, n, ln, l2, l3⟩ := hL
  have hF := hV.facts
  have hFl := vF_le h0 h1 h2 h6 h7 hc h4
  obtain ⟨⟨v0, v1, v2, v6, v7, vr, vl⟩, v3, v4, v5, vc⟩ := hV
  refine w_X6_hears_0 (by omega) hk ?_
  simp (disch := omega) only [Bool.true_eq_false, Bool.false_eq_true, true_and, and_true, true_implies, false_implies, implies_true, not_true_eq_false, not_false_eq_true, ne_eq, forall_const, vc, tn, nI_clamp, hC.fern, nI_pos', ck_and, li_0, nI_eq, nI_leI]
  have go : ∀ (sil fer : Bool), sil = decide (note = 0) → fer = decide (0 < w (75 + cell)) → dd_Ev (d - 1) m_X2_weigh [.ref 25, .ref (k + 1), .int (bI sil), .int (bI fer)] (sM Ln I L c s) (dd_RV Ln c s (fun I1 L1 => (((((I1 (k + 1) 2) + (I1 k 5)) + (I1 25 3)) - nI (w (75 + cell)) < I1 (k + 1) 5 → dd_RI Ln c s K (none, .int (nI 0), sM Ln I1 L1 c s)) ∧ (¬ ((((I1 (k + 1) 2) + (I1 k 5)) + (I1 25 3)) - nI (w (75 + cell)) < I1 (k + 1) 5) → dd_RI Ln c s K (none, .int 1, sM Ln I1 L1 c s))))) := by
    intro sil fer es ef
    obtain ⟨g1, g2⟩ := l3 (vF num part ear bad beat cell (w 4)) sil fer hFl
    refine C_weigh (F := vF num part ear bad beat cell (w 4)) (by omega) (by omega) l2 ln hF ?_
    rw [g1, g2]
    have s0 := sumL_le (w := w) (F := vF num part ear bad beat cell (w 4)) (sil := sil) (fer := fer) (kd := 0) hO.2.2.2.2
    have s1 := sumL_le (w := w) (F := vF num part ear bad beat cell (w 4)) (sil := sil) (fer := fer) (kd := 1) hO.2.2.2.2
    simp (disch := omega) only [dd_us, dd_un, pk_us, pk_un, v2, vl, v5, nI_add, dd_sr]
    have fr : FR 25 [] [3, 4] I (dd_u I 25 (upd (upd (I 25) 3 (nI (sumL w (vF num part ear bad beat cell (w 4)) sil fer 0) - nI (sumL w (vF num part ear bad beat cell (w 4)) sil fer 1))) 4 (bI (decide (0 < sumL w (vF num part ear bad beat cell (w 4)) sil fer 2))))) :=
      ⟨fun i _ h => dd_un h, fun j hj => by
        simp only [List.mem_cons, List.not_mem_nil, or_false] at hj
        rw [dd_us, pk_un (by omega), pk_un (by omega)]⟩
    have kx := kk _ (by rw [dd_us, pk_us]; unfold sts; rw [es, ef]) fr
    unfold hrs at kx
    have f5 : vF num part ear bad beat cell (w 4) 5 = gap cell (w 4) := rfl
    have f2 : vF num part ear bad beat cell (w 4) 2 = ear := rfl
    rw [f5, f2, ← es, ← ef] at kx
    refine ⟨fun q => ?_, fun q => ?_⟩
    · rw [decide_eq_false (by omega)] at kx
      exact dd_qi kx
    · rw [decide_eq_true (by omega)] at kx
      exact dd_qi kx
  refine ⟨fun q => ⟨fun q2 => go true false ?_ ?_, fun q2 => go true true ?_ ?_⟩, fun q => ⟨fun q2 => go false false ?_ ?_, fun q2 => go false true ?_ ?_⟩⟩
  · rw [decide_eq_true q]
  · rw [decide_eq_false (by omega)]
  · rw [decide_eq_true q]
  · rw [decide_eq_true (by omega)]
  · rw [decide_eq_false q]
  · rw [decide_eq_false (by omega)]
  · rw [decide_eq_false q]
  · rw [decide_eq_true (by omega)]
/-- where a note leads one: -2 he strays -/
def gtv (w F : Nat → Nat) (loud fern note cell : Nat) : Int32 := if sts w F fern note = true then nI cell else if hrs w F loud fern note = true then nI (cby w cell note) else -2
theorem cby_n {w : Nat → Nat} {c n : Nat} (h : ¬ n = 0) : stp w c n = cby w c n := by
  unfold cby
  rw [if_neg h]
  split
  · rfl
  · exact stp_o (by omega)
theorem C_goesTo {d Ln c s : Nat} {I : Nat → Nat → Int32} {L : Nat → Nat → Int64} {K : Int32 → (Nat → Nat → Int32) → (Nat → Nat → Int64) → Prop} {w : Nat → Nat} {k num part ear bad beat loud cell note : Nat} {row : Nat → Nat} (hd : 30 ≤ d) (hk : k = 133 ∨ k = 136) (hC : RC w I L) (hO : OKW w) (hL : RLw w I) (hV : RV k num part ear bad beat loud row cell (w 4) I) (h0 : num ≤ 6) (h1 : part < 6) (h2 : ear ≤ 15) (h6 : bad ≤ 99) (h7 : beat < 8) (hl : loud ≤ 15) (hc : cell < 64) (hnt : note ≤ 9) (kk : ∀ I', FR 25 [] [3, 4] I I' → K (gtv w (vF num part ear bad beat cell (w 4)) loud (w (75 + cell)) note cell) I' L) : dd_Ev d m_X6_goesTo [.ref k, .int (nI note)] (sM Ln I L c s) (dd_RI Ln c s K) := by
  refine w_X6_goesTo_0 (by omega) hk ?_
  refine C_hears (by omega) hk hC hO hL hV h0 h1 h2 h6 h7 hl hc hnt fun I1 g1 f1 => ?_
  have kx := kk I1 f1
  have hC1 : RC w I1 L := hC.fr f1 (fun _ _ _ => List.not_mem_nil)
  have vc : I1 k 4 = nI cell := by rw [f1.1 k List.not_mem_nil (by omega)]; exact hV.2.2.2.2
  simp (disch := omega) only [g1, vc, bI_0, li_0, nI_eq]
  rw [← li_0]
  simp only [bI_0]
  unfold gtv at kx
  refine ⟨fun q => ⟨fun q2 => ?_, fun q2 => ⟨fun q3 => ?_, fun q3 => ?_⟩⟩, fun q => ?_⟩
  · rw [q, q2] at kx
    exact dd_qi kx
  · rw [Bool.not_eq_false] at q2
    rw [q, q2] at kx
    refine C_stepNearer (by omega) hC1 hO.1.2.2.2.1 hc ?_
    have e : cby w cell note = nrr w cell := by unfold cby; rw [if_pos q3]
    rw [e] at kx
    exact dd_qi kx
  · rw [Bool.not_eq_false] at q2
    rw [q, q2] at kx
    refine C_stepTo (by omega) hC1 hc hnt ?_
    rw [← cby_n q3] at kx
    exact dd_qi kx
  · rw [Bool.not_eq_false] at q
    rw [q] at kx
    exact dd_qi kx
/-- one beat ahead: the next cell -/
abbrev nxc (w : Nat → Nat) (num part ear bad loud : Nat) (row : Nat → Nat) (cell beat : Nat) : Nat := gcl w (vF num part ear bad beat cell (w 4)) loud (w (75 + cell)) (row beat) cell
theorem RV.fr25 {k num part ear bad beat loud : Nat} {row : Nat → Nat} {cell fire : Nat} {I I' : Nat → Nat → Int32} (h : RV k num part ear bad beat loud row cell fire I) (hk : k = 133 ∨ k = 136) {B : List Nat} (hF : FR 25 [] B I I') : RV k num part ear bad beat loud row cell fire I' := by
  unfold RV RVq at *
  rw [hF.1 k List.not_mem_nil (by omega), hF.1 (k + 1) List.not_mem_nil (by omega), hF.1 (k + 2) List.not_mem_nil (by omega)]
  exact h
theorem C_bump {k num part ear bad beat loud : Nat} {row : Nat → Nat} {cell fire : Nat} {I : Nat → Nat → Int32} (hV : RV k num part ear bad beat loud row cell fire I) (h7 : beat < 8) : RV k num part ear bad ((beat + 1) % 8) loud row cell fire (dd_u I (k + 1) (upd (I (k + 1)) 7 ((I (k + 1) 7 + 1) &&& 7))) := by
  obtain ⟨⟨v0, v1, v2, v6, v7, vr, vl⟩, v3, v4, v5, vc⟩ := hV
  have e : (I (k + 1) 7 + 1) &&& 7 = nI ((beat + 1) % 8) := by rw [v7, nI_1, and7 (by omega)]
  rw [e]
  refine ⟨⟨?_, ?_, ?_, ?_, ?_, ?_, ?_⟩, ?_, ?_, ?_, ?_⟩
  · simp (disch := omega) only [dd_us, pk_un]; exact v0
  · simp (disch := omega) only [dd_us, pk_un]; exact v1
  · simp (disch := omega) only [dd_us, pk_un]; exact v2
  · simp (disch := omega) only [dd_us, pk_un]; exact v6
  · simp (disch := omega) only [dd_us, pk_us]
  · intro j hj
    rw [dd_un (by omega)]
    exact vr j hj
  · rw [dd_un (by omega)]; exact vl
  · simp (disch := omega) only [dd_us, pk_un]; exact v3
  · simp (disch := omega) only [dd_us, pk_un]; exact v4
  · simp (disch := omega) only [dd_us, pk_un]; exact v5
  · rw [dd_un (by omega)]; exact vc
theorem C_beatAhead {d Ln c s : Nat} {I : Nat → Nat → Int32} {L : Nat → Nat → Int64} {K : (Nat → Nat → Int32) → (Nat → Nat → Int64) → Prop} {w : Nat → Nat} {k num part ear bad beat loud cell : Nat} {row : Nat → Nat} (hd : 31 ≤ d) (hk : k = 133 ∨ k = 136) (hC : RC w I L) (hO : OKW w) (hL : RLw w I) (hV : RV k num part ear bad beat loud row cell (w 4) I) (h0 : num ≤ 6) (h1 : part < 6) (h2 : ear ≤ 15) (h6 : bad ≤ 99) (h7 : beat < 8) (hl : loud ≤ 15) (hc : cell < 64) (hr : ∀ j, j < 8 → row j ≤ 9) (kk : ∀ I', RV k num part ear bad ((beat + 1) % 8) loud row (nxc w num part ear bad loud row cell beat) (w 4) I' → FV k I I' → K I' L) : dd_Ev d m_X6_beatAhead [.ref k] (sM Ln I L c s) (dd_RV Ln c s K) := by
  have h4 := hO.1.2.2.2.1
  have hV' := hV
  obtain ⟨⟨v0, v1, v2, v6, v7, vr, vl⟩, v3, v4, v5, vc⟩ := hV
  have m1 : k + 1 ∈ [k, k + 1, k + 2] := by simp
  refine w_X6_beatAhead_0 (by omega) hk ?_
  have e7 : I (k + 1) 7 &&& 7 = nI beat := by rw [v7, and7 (by omega), Nat.mod_eq_of_lt h7]
  rw [e7, vc, hC.fire, nI_eq (by omega) (by omega)]
  unfold nxc gcl at kk
  refine ⟨fun q => ?_, fun q => ⟨⟨nI_pos' (by omega), by rw [show tn (nI beat) = beat from nI_clamp (by omega)]; exact h7⟩, ?_⟩⟩
  · rw [if_pos q] at kk
    exact dd_qV (kk _ (C_bump hV' h7) ((FR.refl I).u m1 (by omega)))
  · rw [if_neg q] at kk
    rw [show tn (nI beat) = beat from nI_clamp (by omega), vr beat h7]
    refine C_goesTo (by omega) hk hC hO hL hV' h0 h1 h2 h6 h7 hl hc (hr beat h7) fun I1 f1 => ?_
    have hV1 := hV'.fr25 hk f1
    have f1' : FV k I I1 := f1.mono (fun x hx => absurd hx List.not_mem_nil) (fun x hx => hx)
    have hC1 : RC w I1 L := hC.fr f1 (fun _ _ _ => List.not_mem_nil)
    have m2 : ∀ n, n < 64 → (nI n = -2) = False := fun n hn => by
      refine eq_false fun h => ?_
      have := congrArg Int32.toInt h
      rw [nI_toInt (by omega)] at this
      have e : (-2 : Int32).toInt = -2 := rfl
      omega
    have done : (nxc w num part ear bad loud row cell beat = cell) → dd_RV Ln c s K (none, .null, sM Ln (dd_u I1 (k + 1) (upd (I1 (k + 1)) 7 ((I1 (k + 1) 7 + 1) &&& 7))) L c s) := by
      intro e
      unfold nxc gcl at e
      rw [if_neg q] at e
      rw [e] at kk
      exact dd_qV (kk _ (C_bump hV1 h7) (f1'.u m1 (by omega)))
    have walk : ∀ c1, c1 < 64 → nxc w num part ear bad loud row cell beat = c1 → dd_Ev (d - 1) m_X6_standAt [.ref k, .int (nI c1)] (sM Ln I1 L c s) (dd_RV Ln c s (fun I2 L2 => dd_RV Ln c s K (none, .null, sM Ln (dd_u I2 (k + 1) (upd (I2 (k + 1)) 7 ((I2 (k + 1) 7 + 1) &&& 7))) L2 c s))) := by
      intro c1 hc1 e
      unfold nxc gcl at e
      rw [if_neg q] at e
      rw [e] at kk
      refine C_standAt (by omega) hk hC1 h4 hV1.1 hc1 fun I2 g2 f2 => ?_
      exact dd_qV (kk _ (C_bump g2 h7) ((f1'.trans f2).u m1 (by omega)))
    unfold gtv
    by_cases q1 : sts w (vF num part ear bad beat cell (w 4)) (w (75 + cell)) (row beat) = true
    · simp only [if_pos q1, m2 cell hc, Bool.true_eq_false, Bool.false_eq_true, true_and, and_true, true_implies, false_implies, implies_true, not_true_eq_false, not_false_eq_true, ne_eq, forall_const]
      exact walk cell hc (by unfold nxc gcl; rw [if_neg q, if_pos q1])
    · simp only [if_neg q1]
      by_cases q2 : hrs w (vF num part ear bad beat cell (w 4)) loud (w (75 + cell)) (row beat) = true
      · simp only [if_pos q2, m2 _ (cby_lt hc), Bool.true_eq_false, Bool.false_eq_true, true_and, and_true, true_implies, false_implies, implies_true, not_true_eq_false, not_false_eq_true, ne_eq, forall_const]
        exact walk _ (cby_lt hc) (by unfold nxc gcl; rw [if_neg q, if_neg q1, if_pos q2])
      · simp only [if_neg q2, Bool.true_eq_false, Bool.false_eq_true, true_and, and_true, true_implies, false_implies, implies_true, not_true_eq_false, not_false_eq_true, ne_eq, forall_const]
        exact done (by unfold nxc gcl; rw [if_neg q, if_neg q1, if_neg q2])
