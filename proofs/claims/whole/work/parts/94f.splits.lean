/-! splits -/
theorem C_lostCells {d Ln c s : Nat} {I : Nat → Nat → Int32} {L : Nat → Nat → Int64} {K : Int64 → (Nat → Nat → Int32) → (Nat → Nat → Int64) → Prop} {w : Nat → Nat} (hd : 29 ≤ d) (hC : RC w I L) (hO : OKW w) (kk : ∀ v, (∀ y, y < 64 → (bL v y = true ↔ ∃ b, b < w 1 ∧ lsB w b = true ∧ w (187 + 5 * b) = y)) → K v I L) : dd_Ev d m_X7_lostCells [.ref 139] (sM Ln I L c s) (dd_RL Ln c s K) := by
  have w1 := hO.1.2.1
  refine w_X7_lostCells_0 (by omega) ?_
  have key : ∀ a, (∀ y, y < 64 → (bL a y = true ↔ ∃ b, b < 0 ∧ lsB w b = true ∧ w (187 + 5 * b) = y)) → dd_Rn d m_X7_lostCells (4, [.ref 139, .long a, .null, .int (nI 0)], [], sM Ln I L c s) (dd_RL Ln c s K) := by
    refine dd_lp (fun i => ∀ a, (∀ y, y < 64 → (bL a y = true ↔ ∃ b, b < i ∧ lsB w b = true ∧ w (187 + 5 * b) = y)) → dd_Rn d m_X7_lostCells (4, [.ref 139, .long a, .null, .int (nI i)], [], sM Ln I L c s) (dd_RL Ln c s K)) (w 1) ?_ ?_
    · intro a ha
      refine w_X7_lostCells_4 (by omega) ?_
      rw [hC.boys, nI_leI (by omega) (by omega)]
      exact ⟨fun _ => dd_qL rfl (kk a ha), fun z => absurd (Nat.le_refl _) z⟩
    · intro i hi ih a ha
      have cl := (hO.2.2.2.1 i (by omega)).2.1
      have ti : tn (nI i) = i := nI_clamp (by omega)
      refine w_X7_lostCells_4 (by omega) ?_
      rw [hC.boys, nI_leI (by omega) (by omega)]
      simp only [nI_1]
      refine ⟨fun z => absurd z (by omega), fun _ => ?_⟩
      refine C_isIn (w := w) (by omega) hC (by omega) ?_
      rw [bI_z, ti, hC.cell (by omega)]
      refine ⟨fun z => ⟨⟨nI_pos' (by omega), by omega⟩, ih _ (fun y hy => ?_)⟩, fun z => ih a (fun y hy => ?_)⟩
      · have zl : lsB w i = true := by unfold lsB; rw [z]; rfl
        rw [bL_or, bL_one cl hy, Bool.or_eq_true, decide_eq_true_eq, ha y hy]
        constructor
        · rintro (⟨b, b1, b2, b3⟩ | q)
          · exact ⟨b, by omega, b2, b3⟩
          · exact ⟨i, by omega, zl, q.symm⟩
        · rintro ⟨b, b1, b2, b3⟩
          by_cases e : b = i
          · subst e; exact Or.inr b3.symm
          · exact Or.inl ⟨b, by omega, b2, b3⟩
      · have zl : ¬ lsB w i = true := by
          unfold lsB
          rw [decide_eq_true (Decidable.of_not_not (fun z2 => z (decide_eq_false z2)))]; decide
        rw [ha y hy]
        constructor
        · rintro ⟨b, b1, b2, b3⟩
          exact ⟨b, by omega, b2, b3⟩
        · rintro ⟨b, b1, b2, b3⟩
          by_cases e : b = i
          · subst e; exact absurd b2 zl
          · exact ⟨b, by omega, b2, b3⟩
  refine key _ (fun y hy => ?_)
  rw [bL_0]
  exact ⟨(fun z => by cases z), fun ⟨b, b1, _⟩ => absurd b1 (Nat.not_lt_zero b)⟩
def wpP (u : Nat → Nat) : Nat → Bool := fun b => lsB u b && lvA (opn u) (u 4) 64 (u (187 + 5 * b))
def wpV (u : Nat → Nat) (v : Int32) : Prop := ∀ i, i < 32 → bX v i = (decide (i < u 1) && wpP u i)
theorem M_withPath {d Ln c s : Nat} {I : Nat → Nat → Int32} {L : Nat → Nat → Int64} {K : Int32 → (Nat → Nat → Int32) → (Nat → Nat → Int64) → Prop} {w : Nat → Nat} (hd : 30 ≤ d) (hR : RM w I) (hO : OKW w) (k : ∀ v I', wpV w v → RM w I' → FL I I' → K v I' L) : dd_Ev d m_X11_withPath [.ref 148] (sM Ln I L c s) (dd_RI Ln c s K) := by
  have w1 := hO.1.2.1
  have w4 := hO.1.2.2.2.1
  refine w_X11_withPath_0 (by omega) ?_
  rw [hR.g (by omega)]
  refine M_look (w := w) (by omega) hR hO w4 fun I2 len q r2 f2 m1 _ _ _ _ => ?_
  have key : ∀ a : Int32, (∀ i, i < 32 → bX a i = (decide (i < 0) && wpP w i)) → dd_Rn d m_X11_withPath (14, [.ref 148, .int a, .int (nI 0)], [], sM Ln I2 L c s) (dd_RI Ln c s K) := by
    refine dd_lp (fun n => ∀ a : Int32, (∀ i, i < 32 → bX a i = (decide (i < n) && wpP w i)) → dd_Rn d m_X11_withPath (14, [.ref 148, .int a, .int (nI n)], [], sM Ln I2 L c s) (dd_RI Ln c s K)) (w 1) ?_ ?_
    · intro a ha
      refine w_X11_withPath_14 (by omega) ?_
      rw [r2.g (by omega), nI_leI (by omega) (by omega)]
      exact ⟨fun _ => dd_qi (k a I2 ha r2 f2), fun z => absurd (Nat.le_refl _) z⟩
    · intro n hn ih a ha
      obtain ⟨c0, c1, c2, c3, c4, c5⟩ := hO.2.2.2.1 n (by omega)
      have e3 : (187 : Int32) + (5 : Int32) * nI n + 3 = nI (187 + 5 * n + 3) := by rw [li_187, li_5, li_3, pk_mul, nI_add, nI_add]
      have e0 : (187 : Int32) + (5 : Int32) * nI n + 0 = nI (187 + 5 * n) := by rw [li_187, li_5, li_0, pk_mul, nI_add, nI_add, Nat.add_zero]
      have t3 : tn (nI (187 + 5 * n + 3)) = 187 + 5 * n + 3 := nI_clamp (by omega)
      have t0 : tn (nI (187 + 5 * n)) = 187 + 5 * n := nI_clamp (by omega)
      have tc : tn (nI (w (187 + 5 * n))) = w (187 + 5 * n) := nI_clamp (by omega)
      refine w_X11_withPath_14 (by omega) ?_
      rw [e3, t3, e0, t0, r2.g (show 1 < 1371 by omega), r2.g (show 187 + 5 * n + 3 < 1371 by omega), r2.g (show 187 + 5 * n < 1371 by omega), tc, m1 _ c1, nI_leI (by omega) (by omega), nI1i (by omega)]
      simp only [nI_1]
      rw [show a ||| 0 = a from bX_ext (fun i hi => by rw [bX_or, bX_0, Bool.or_false])]
      have no : wpP w n = false → dd_Rn d m_X11_withPath (14, [.ref 148, .int a, .int (nI (n + 1))], [], sM Ln I2 L c s) (dd_RI Ln c s K) := by
        intro wf
        refine ih a (fun i hi => ?_)
        rw [ha i hi]
        by_cases e : i = n
        · subst e; rw [wf, Bool.and_false, Bool.and_false]
        · rw [decide_eq_decide.mpr (show i < n ↔ i < n + 1 by omega)]
      refine ⟨fun z => absurd z (by omega), fun _ => ⟨⟨nI_pos' (by omega), by omega⟩, fun z => ?_, fun z => ⟨⟨nI_pos' (by omega), by omega⟩, ⟨nI_pos' (by omega), by omega⟩, ?_⟩⟩⟩
      · refine no ?_
        unfold wpP lsB
        rw [decide_eq_true z]; rfl
      · have zl := lsB_t.mpr z
        rcases fr_64 (op := opn w) w4 c1 with ⟨q1, q2⟩ | ⟨m, q0, q1, q2⟩
        · rw [q1]
          refine ⟨fun _ => no ?_, fun z => absurd rfl z⟩
          unfold wpP
          rw [q2, Bool.and_false]
        · rw [q1]
          have ne : ¬ oI (some m) = -1 := fun z => by
            have : (nI m = -1) = False := nI_nm (by omega)
            exact (this ▸ z : False)
          refine ⟨fun z => absurd z ne, fun _ => ih _ (fun i hi => ?_)⟩
          rw [bX_or, bX_one (by omega) hi, ha i hi]
          by_cases e : i = n
          · subst e
            unfold wpP
            rw [zl, q2, decide_eq_true rfl, decide_eq_true (Nat.lt_succ_self i), Bool.or_true]; rfl
          · rw [decide_eq_false e, Bool.or_false, decide_eq_decide.mpr (show i < n ↔ i < n + 1 by omega)]
  exact key 0 (fun i hi => by rw [bX_0, decide_eq_false (Nat.not_lt_zero i), Bool.false_and])
/-- one tree more -/
def trW (w : Nat → Nat) (y : Nat) : Nat → Nat := upw w (11 + y) 1
theorem trW_eq {w : Nat → Nat} {y : Nat} : trW w y (11 + y) = 1 := upw_eq
theorem trW_ne {w : Nat → Nat} {y j : Nat} (h : j ≠ 11 + y) : trW w y j = w j := upw_ne h
theorem opn_tr {w : Nat → Nat} {y i : Nat} (hi : i < 64) : opn (trW w y) i = (opn w i && !decide (i = y)) := by
  unfold opn
  rw [decide_eq_true hi, Bool.true_and, Bool.true_and]
  by_cases e : i = y
  · subst e; rw [trW_eq, decide_eq_true rfl, decide_eq_true rfl, Bool.not_true, Bool.and_false]
  · rw [trW_ne (by omega), decide_eq_false e, Bool.not_false, Bool.and_true]
theorem lv_subop {op op' : Nat → Bool} {x : Nat} (h : ∀ i, i < 64 → op' i = true → op i = true) (hx : x < 64) : ∀ n y, y < 64 → lvA op' x n y = true → lvA op x n y = true := by
  intro n
  induction n with
  | zero => intro y hy q; rw [lv_0] at q ⊢; exact ⟨q.1, h x hx q.2⟩
  | succ n ih =>
    intro y hy q
    rcases lv_s.mp q with q | ⟨q1, k, q2, q3, q4⟩
    · exact lv_s.mpr (Or.inl (ih y hy q))
    · exact lv_s.mpr (Or.inr ⟨h y hy q1, k, q2, q3, ih k q2 q4⟩)
def spP (w : Nat → Nat) (y : Nat) : Bool := (opn w y && (!decide (y = w 4) && !anyN (lostP w y) (w 1))) && anyN (fun b => wpP w b && !wpP (trW w y) b) (w 1)
def spA (w : Nat → Nat) : Nat → Nat := lpf (fun y x => if spP w y = true then x + 1 else x) 0
theorem lsB_tr {w : Nat → Nat} {y b : Nat} (hy : y < 64) : lsB (trW w y) b = lsB w b := by
  unfold lsB
  rw [trW_ne (by omega)]
theorem wp_ne {w : Nat → Nat} {y : Nat} (hO : OKW w) (hy : y < 64) {v v2 : Int32} (h : wpV w v) (h2 : wpV (trW w y) v2) : (v2 = v) ↔ anyN (fun b => wpP w b && !wpP (trW w y) b) (w 1) = false := by
  have w1 := hO.1.2.1
  have w4 := hO.1.2.2.2.1
  have e1 : trW w y 1 = w 1 := trW_ne (by omega)
  rw [anyN_no]
  constructor
  · intro z b hb
    have a1 := h b (by omega)
    have a2 := h2 b (by omega)
    rw [e1, z, a1, decide_eq_true hb, Bool.true_and, Bool.true_and] at a2
    rw [← a2]
    cases wpP w b <;> rfl
  · intro z
    refine bX_ext fun i hi => ?_
    rw [h i hi, h2 i hi, e1]
    by_cases q : i < w 1
    · rw [decide_eq_true q, Bool.true_and, Bool.true_and]
      have zi := z i q
      cases h1 : wpP (trW w y) i with
      | true =>
        have : wpP w i = true := by
          unfold wpP at h1 ⊢
          rw [Bool.and_eq_true] at h1 ⊢
          have cl := (hO.2.2.2.1 i (by omega)).2.1
          refine ⟨by rw [← lsB_tr hy]; exact h1.1, ?_⟩
          have l1 := h1.2
          rw [trW_ne (show 4 ≠ 11 + y by omega), trW_ne (show 187 + 5 * i ≠ 11 + y by omega)] at l1
          refine lv_subop (fun j hj q => ?_) w4 64 _ cl l1
          rw [opn_tr hj, Bool.and_eq_true] at q
          exact q.1
        exact this.symm
      | false =>
        have zi : (wpP w i && !wpP (trW w y) i) = false := zi
        rw [h1, Bool.not_false, Bool.and_true] at zi
        exact zi.symm
    · rw [decide_eq_false q, Bool.false_and, Bool.false_and]
theorem spA_le {w : Nat → Nat} : ∀ i, spA w i ≤ i := by
  intro i
  induction i with
  | zero => exact Nat.le_refl _
  | succ i ih =>
    have e : spA w (i + 1) = if spP w i = true then spA w i + 1 else spA w i := rfl
    rw [e]
    split <;> omega
theorem A_splits {d Ln c s : Nat} {I0 I : Nat → Nat → Int32} {L : Nat → Nat → Int64} {w : Nat → Nat} {im : Option (Nat → Nat)} {na od : Nat} {A : Nat → Nat → Nat} {tp : Nat → Nat} {tl : Nat} {fa : Option Nat} (hd : 60 ≤ d) (h : INV I0 w im na od A tp tl fa I L) : PIw d m_X10_splits [.ref 0] m_X11_splits [.ref 148] I0 Ln c s I L := by
  have hO := h.1.1
  have hC := h.2.2.1
  have w1 := hO.1.2.1
  have w4 := hO.1.2.2.2.1
  refine PIw.q h (nI (spA w 64)) ?_ ?_
  · intro K g
    have ho : ∀ i, i < 64 → bL (L 1 0 ^^^ Int64.ofNat 18446744073709551615) i = opn w i := by
      intro i hi
      rw [bL_not _ hi, hC.tree hi]
      unfold opn
      rw [decide_eq_true hi, Bool.true_and]
    refine w_X10_splits_0 (by omega) ?_
    refine w_X7_partingCells_0 (by omega) ?_
    generalize (L 1 0 ^^^ Int64.ofNat 18446744073709551615) = o at *
    refine C_lostCells (w := w) (by omega) hC hO fun v1 hv1 => ?_
    rw [hC.fire]
    refine C_reached (op := opn w) (by omega) w4 ho fun v2 hv2 => ?_
    have hw : ∀ y, y < 64 → (bL (v1 &&& v2) y = true ↔ ∃ b, b < w 1 ∧ wpP w b = true ∧ w (187 + 5 * b) = y) := by
      intro y hy
      rw [bL_and, Bool.and_eq_true, hv1 y hy, hv2 y hy]
      unfold wpP
      constructor
      · rintro ⟨⟨b, b1, b2, b3⟩, q⟩
        exact ⟨b, b1, by rw [b2, b3, q]; rfl, b3⟩
      · rintro ⟨b, b1, b2, b3⟩
        rw [Bool.and_eq_true] at b2
        rw [b3] at b2
        exact ⟨⟨b, b1, b2.1, b3⟩, b2.2⟩
    generalize v1 &&& v2 = v at *
    have key : ∀ a7, dd_Rn (d - 1) m_X7_partingCells (35, [.ref 139, .long o, .null, .long v, .null, .int (nI (spA w 0)), .int (nI 0), a7, .null], [], sM Ln I L c s) (dd_RI Ln c s (fun x1 I1 L1 => dd_RI Ln c s K (none, .int x1, sM Ln I1 L1 c s))) := by
      refine dd_lp (fun i => ∀ a7, dd_Rn (d - 1) m_X7_partingCells (35, [.ref 139, .long o, .null, .long v, .null, .int (nI (spA w i)), .int (nI i), a7, .null], [], sM Ln I L c s) (dd_RI Ln c s (fun x1 I1 L1 => dd_RI Ln c s K (none, .int x1, sM Ln I1 L1 c s)))) 64 ?_ ?_
      · intro a7
        refine w_X7_partingCells_35 (by omega) ?_
        rw [li_64, nI_leI (by omega) (by omega)]
        exact ⟨fun _ => dd_qi (dd_qi (g I L (FC.refl I L))), fun z => absurd (Nat.le_refl _) z⟩
      · intro i hi ih a7
        have es : spA w (i + 1) = if spP w i = true then spA w i + 1 else spA w i := rfl
        rw [es] at ih
        refine w_X7_partingCells_35 (by omega) ?_
        rw [li_64, nI_leI (by omega) (by omega)]
        simp only [nI_1]
        refine ⟨fun z => absurd z (by omega), fun _ => ?_⟩
        refine C_isOpen (w := w) (by omega) hC (by omega) ?_
        rw [bI_z]
        refine ⟨fun z => ?_, fun z => ?_⟩
        · rw [if_neg (by unfold spP; rw [z, Bool.false_and, Bool.false_and]; decide)] at ih
          exact ih _
        · have zo : opn w i = true := by
            cases hz : opn w i with
            | true => rfl
            | false => exact absurd hz z
          refine w_X8_canPlant_0 (by omega) ?_
          rw [hC.fire, nI_eq (by omega) (by omega)]
          refine ⟨fun z2 => dd_qi ⟨fun _ => ?_, fun z3 => absurd rfl z3⟩, fun z2 => ?_⟩
          · rw [if_neg (by unfold spP; rw [decide_eq_true z2, Bool.not_true, Bool.false_and, Bool.and_false, Bool.false_and]; decide)] at ih
            exact ih _
          · refine C_isLostAt (w := w) (by omega) hC hO hi ?_
            rw [bI_z]
            refine ⟨fun z3 => dd_qi ⟨fun z4 => absurd z4 (by decide), fun _ => ?_⟩, fun z3 => dd_qi ⟨fun _ => ?_, fun z4 => absurd rfl z4⟩⟩
            · have ho' : ∀ j, j < 64 → bL (o &&& ((Int64.ofNat 1 <<< ((nI i).toInt64 &&& 63)) ^^^ Int64.ofNat 18446744073709551615)) j = opn (trW w i) j := by
                intro j hj
                rw [bL_and, bL_not _ hj, bL_one hi hj, ho j hj, opn_tr hj]
              rw [hC.fire]
              refine C_reached (op := opn (trW w i)) (by omega) w4 ho' fun v3 hv3 => ?_
              rw [L_zero]
              have eq : (∀ y, y < 64 → bL (v &&& (v3 ^^^ Int64.ofNat 18446744073709551615)) y = false) ↔ anyN (fun b => wpP w b && !wpP (trW w i) b) (w 1) = false := by
                have sw : ∀ b, b < w 1 → wpP (trW w i) b = (lsB w b && bL v3 (w (187 + 5 * b))) := by
                  intro b hb
                  have cl := (hO.2.2.2.1 b (by omega)).2.1
                  unfold wpP
                  rw [lsB_tr hi, trW_ne (show 4 ≠ 11 + i by omega), trW_ne (show 187 + 5 * b ≠ 11 + i by omega), hv3 _ cl]
                rw [anyN_no]
                constructor
                · intro y1 b hb
                  have cl := (hO.2.2.2.1 b (by omega)).2.1
                  rw [sw b hb]
                  cases hq : wpP w b with
                  | false => rfl
                  | true =>
                    have hl : lsB w b = true := by unfold wpP at hq; rw [Bool.and_eq_true] at hq; exact hq.1
                    have := y1 _ cl
                    rw [bL_and, bL_not _ cl, (hw _ cl).mpr ⟨b, hb, hq, rfl⟩, Bool.true_and, Bool.not_eq_false'] at this
                    rw [hl, this]; rfl
                · intro y1 y hy
                  rw [bL_and, bL_not _ hy]
                  cases hq : bL v y with
                  | false => rfl
                  | true =>
                    obtain ⟨b, b1, b2, b3⟩ := (hw y hy).mp hq
                    have := y1 b b1
                    rw [sw b b1, b2, Bool.true_and, Bool.not_eq_false', Bool.and_eq_true, b3] at this
                    rw [this.2]; rfl
              rw [eq]
              have sp : spP w i = anyN (fun b => wpP w b && !wpP (trW w i) b) (w 1) := by
                unfold spP
                rw [zo, decide_eq_false z2, z3]; rfl
              rw [sp] at ih
              refine ⟨fun z5 => ?_, fun z5 => ?_⟩
              · rw [if_neg (by rw [z5]; decide)] at ih
                exact ih _
              · rw [if_pos (by cases hz : anyN (fun b => wpP w b && !wpP (trW w i) b) (w 1) with
                  | true => rfl
                  | false => exact absurd hz z5)] at ih
                exact ih _
            · rw [if_neg (by
                have zt : anyN (lostP w i) (w 1) = true := by
                  cases hz : anyN (lostP w i) (w 1) with
                  | true => rfl
                  | false => exact absurd hz z3
                unfold spP
                rw [zt, Bool.not_true, Bool.and_false, Bool.and_false, Bool.false_and]; decide)] at ih
              exact ih _
    exact key _
  · intro I1 L1 h1 K g
    have hR := h1.2.1
    refine w_X11_splits_0 (by omega) ?_
    have fj := FM.th I1 0
    have t0 := thr0 (I := I1) (v := 0)
    have hR1 : RM w (dd_u I1 148 (upd (I1 148) 0 0)) := hR.of (dd_un (by decide))
    generalize dd_u I1 148 (upd (I1 148) 0 0) = J at *
    refine M_withPath (w := w) (by omega) hR1 hO fun v I2 hv r2 f2 => ?_
    have key : ∀ I', RM w I' → FR 148 [149, 157, 158] [21] J I' → dd_Rn d m_X11_splits (14, [.ref 148, .int v, .int (nI (spA w 0)), .int (nI 0)], [], sM Ln I' L1 c s) (dd_RI Ln c s K) := by
      refine dd_lp (fun i => ∀ I', RM w I' → FR 148 [149, 157, 158] [21] J I' → dd_Rn d m_X11_splits (14, [.ref 148, .int v, .int (nI (spA w i)), .int (nI i)], [], sM Ln I' L1 c s) (dd_RI Ln c s K)) 64 ?_ ?_
      · intro I' r f
        refine w_X11_splits_14 (by omega) ?_
        rw [li_64, nI_leI (by omega) (by omega)]
        exact ⟨fun _ => mqJ r (fj.trans (FM.fr f (by decide) (by decide))) (by rw [f.2 0 (by decide)]; exact t0) rfl g, fun z => absurd (Nat.le_refl _) z⟩
      · intro i hi ih I' r f
        have es : spA w (i + 1) = if spP w i = true then spA w i + 1 else spA w i := rfl
        rw [es] at ih
        have tx := (hO.2.1 i hi).1
        have e11 : (11 : Int32) + nI i = nI (11 + i) := by rw [li_11, nI_add]
        have t11 : tn (nI (11 + i)) = 11 + i := nI_clamp (by omega)
        refine w_X11_splits_14 (by omega) ?_
        rw [li_64, nI_leI (by omega) (by omega), e11, t11, r.g (show 11 + i < 1371 by omega), r.g (show 4 < 1371 by omega), nI1i tx, nI_eq (by omega) (by omega)]
        simp only [nI_1]
        have z0 : nI (spA w i) + 0 = nI (spA w i) := Int32.add_zero _
        rw [z0]
        refine ⟨fun z => absurd z (by omega), fun _ => ⟨⟨nI_pos' (by omega), by omega⟩, fun z => ?_, fun z => ⟨fun z2 => ?_, fun z2 => ?_⟩⟩⟩
        · rw [if_neg (by unfold spP; rw [(opn_f hi).mpr z, Bool.false_and, Bool.false_and]; decide)] at ih
          exact ih I' r f
        · rw [if_neg (by unfold spP; rw [decide_eq_true z2, Bool.not_true, Bool.false_and, Bool.and_false, Bool.false_and]; decide)] at ih
          exact ih I' r f
        · have zo : opn w i = true := opn_t.mpr ⟨hi, z⟩
          refine M_isLostIn (w := w) (by omega) r hO hi ?_
          rw [bI_z]
          refine ⟨fun z3 => ⟨⟨nI_pos' (by omega), by omega⟩, ?_⟩, fun z3 => ?_⟩
          · have rT : RM (trW w i) (dd_u I' 149 (upd (I' 149) (11 + i) 1)) := RM.set (nu r (11 + i) 1)
            refine M_withPath (w := trW w i) (by omega) rT (okW_t hO hi (by omega)) fun v' I3 hv' r3 f3 => ?_
            have rb : RM w (dd_u I3 149 (upd (I3 149) (11 + i) 0)) := by
              have := RM.set (I := I3) (nu r3 (11 + i) 0)
              have e : upw (trW w i) (11 + i) 0 = w := by
                funext j
                by_cases q : j = 11 + i
                · rw [q, upw_eq]; omega
                · rw [upw_ne q, trW_ne q]
              rw [e] at this
              exact this
            have F : FR 148 [149, 157, 158] [21] J (dd_u I3 149 (upd (I3 149) (11 + i) 0)) := ((f.u (by decide) (by decide)).trans (f3.mono (by decide) (by decide))).u (by decide) (by decide)
            have sp : spP w i = anyN (fun b => wpP w b && !wpP (trW w i) b) (w 1) := by
              unfold spP
              rw [zo, decide_eq_false z2, z3]; rfl
            rw [sp] at ih
            rw [wp_ne hO hi hv hv']
            refine ⟨fun z5 => ⟨⟨nI_pos' (by omega), by omega⟩, ?_⟩, fun z5 => ⟨⟨nI_pos' (by omega), by omega⟩, ?_⟩⟩
            · rw [if_neg (by rw [z5]; decide)] at ih
              exact ih _ rb F
            · rw [if_pos (by cases hz : anyN (fun b => wpP w b && !wpP (trW w i) b) (w 1) with
                | true => rfl
                | false => exact absurd hz z5)] at ih
              exact ih _ rb F
          · rw [if_neg (by
              have zt : anyN (lostP w i) (w 1) = true := by
                cases hz : anyN (lostP w i) (w 1) with
                | true => rfl
                | false => exact absurd hz z3
              unfold spP
              rw [zt, Bool.not_true, Bool.and_false, Bool.and_false, Bool.false_and]; decide)] at ih
            exact ih I' r f
    exact key I2 r2 (f2.mono (by decide) (by decide))
