/-! calls, first, can: the class's answers -/
theorem and7q {n : Nat} (h : n < 2 ^ 31) : nI n &&& 7 = nI (n % 8) := and7 (by omega)
theorem lv_one {x : Nat} (hx : x < 64) {w : Nat → Nat} {b t : Nat} : ∀ y, y < 64 → bL (Int64.ofNat 1 <<< ((nI x).toInt64 &&& 63)) y = rs w b t x 0 y := fun y hy => by rw [bL_one hx hy, rs]
theorem C_fewest {d Ln c s : Nat} {I : Nat → Nat → Int32} {L : Nat → Nat → Int64} {K : Int32 → (Nat → Nat → Int32) → (Nat → Nat → Int64) → Prop} {w : Nat → Nat} {b x lt m : Nat} (hd : 31 ≤ d) (hC : RC w I L) (hO : OKW w) (hT : thkL w b L) (hx : x < 64) (ho : ¬ w (11 + x) = 1) (hl : lt ≤ 1) (hm : m ≤ 64) (kk : K (oI (frst (fun n => rs w b (w 7 + lt) x n (w 4)) (m + 1))) I L) : dd_Ev d m_X1_fewest [.ref 141, .int (nI x), .int (nI lt), .int (nI m)] (sM Ln I L c s) (dd_RI Ln c s K) := by
  have w4 := hO.1.2.2.2.1
  have w7 := hO.1.2.2.2.2.2.2.1
  refine w_X1_fewest_0 (by omega) ?_
  have key : ∀ a, (∀ y, y < 64 → bL a y = rs w b (w 7 + lt) x 0 y) → (∀ n, n < 0 → rs w b (w 7 + lt) x n (w 4) = false) → dd_Rn d m_X1_fewest (8, [.ref 141, .int (nI x), .int (nI lt), .int (nI m), .long a, .null, .int (nI 0)], [], sM Ln I L c s) (dd_RI Ln c s K) := by
    refine dd_lp (fun i => ∀ a, (∀ y, y < 64 → bL a y = rs w b (w 7 + lt) x i y) → (∀ n, n < i → rs w b (w 7 + lt) x n (w 4) = false) → dd_Rn d m_X1_fewest (8, [.ref 141, .int (nI x), .int (nI lt), .int (nI m), .long a, .null, .int (nI i)], [], sM Ln I L c s) (dd_RI Ln c s K)) (m + 1) ?_ ?_
    · intro a ha hf
      refine w_X1_fewest_8 (by omega) ?_
      rw [nI_ltI (by omega) (by omega)]
      rw [frst_none hf] at kk
      exact ⟨fun _ => dd_qi kk, fun z => absurd (by omega) z⟩
    · intro i hi ih a ha hf
      refine w_X1_fewest_8 (by omega) ?_
      rw [nI_ltI (by omega) (by omega), hC.fire, L_bit w4, ha _ w4, hC.beat, nI_add, nI_add, and7q (by omega)]
      simp only [nI_1]
      refine ⟨fun z => absurd z (by omega), fun _ => ⟨fun z => ?_, fun z => ?_⟩⟩
      · refine C_oneBeat (w := w) (b := b) (S := rs w b (w 7 + lt) x i) (by omega) hC hO hT (by omega) ha (rs_ok hx ho i) fun v hv => ?_
        refine ih v (fun y hy => by rw [hv y hy]; rfl) (fun n hn => ?_)
        by_cases e : n = i
        · subst e; exact z
        · exact hf n (by omega)
      · have zt : rs w b (w 7 + lt) x i (w 4) = true := by
          cases hz : rs w b (w 7 + lt) x i (w 4) with
          | true => rfl
          | false => exact absurd hz z
        rw [frst_some (p := fun n => rs w b (w 7 + lt) x n (w 4)) zt hf hi] at kk
        exact dd_qi kk
  exact key _ (lv_one hx) (fun n hn => absurd hn (Nat.not_lt_zero n))
theorem C_reachedIn {d Ln c s : Nat} {I : Nat → Nat → Int32} {L : Nat → Nat → Int64} {K : Int32 → (Nat → Nat → Int32) → (Nat → Nat → Int64) → Prop} {w : Nat → Nat} {b x m : Nat} (hd : 31 ≤ d) (hC : RC w I L) (hO : OKW w) (hT : thkL w b L) (hx : x < 64) (ho : ¬ w (11 + x) = 1) (hm : m ≤ 16) (kk : K (nI (smF (fun y => (rs w b (w 7) x m y).toNat) 64)) I L) : dd_Ev d m_X1_reachedIn [.ref 141, .int (nI x), .int (nI m)] (sM Ln I L c s) (dd_RI Ln c s K) := by
  have w7 := hO.1.2.2.2.2.2.2.1
  refine w_X1_reachedIn_0 (by omega) ?_
  have key : ∀ a, (∀ y, y < 64 → bL a y = rs w b (w 7) x 0 y) → dd_Rn d m_X1_reachedIn (7, [.ref 141, .int (nI x), .int (nI m), .long a, .null, .int (nI 0)], [], sM Ln I L c s) (dd_RI Ln c s K) := by
    refine dd_lp (fun i => ∀ a, (∀ y, y < 64 → bL a y = rs w b (w 7) x i y) → dd_Rn d m_X1_reachedIn (7, [.ref 141, .int (nI x), .int (nI m), .long a, .null, .int (nI i)], [], sM Ln I L c s) (dd_RI Ln c s K)) m ?_ ?_
    · intro a ha
      refine w_X1_reachedIn_7 (by omega) ?_
      rw [nI_leI (by omega) (by omega)]
      refine ⟨fun _ => J_pop (by omega) (dd_qi ?_), fun z => absurd (Nat.le_refl _) z⟩
      have e : popL (nL a) = smF (fun y => (rs w b (w 7) x m y).toNat) 64 := smF_cong (fun i hi => by
        show ((nL a).testBit i).toNat = (rs w b (w 7) x m i).toNat
        rw [nL_bit, ha i hi])
      rw [e]
      exact kk
    · intro i hi ih a ha
      refine w_X1_reachedIn_7 (by omega) ?_
      rw [nI_leI (by omega) (by omega), hC.beat, nI_add, and7q (by omega)]
      simp only [nI_1]
      refine ⟨fun z => absurd z (by omega), fun _ => ?_⟩
      refine C_oneBeat (w := w) (b := b) (S := rs w b (w 7) x i) (by omega) hC hO hT (by omega) ha (rs_ok hx ho i) fun v hv => ?_
      exact ih v (fun y hy => by rw [hv y hy]; rfl)
  exact key _ (lv_one hx)
theorem C_ledTo {d Ln c s : Nat} {I : Nat → Nat → Int32} {L : Nat → Nat → Int64} {K : Int32 → (Nat → Nat → Int32) → (Nat → Nat → Int64) → Prop} {w : Nat → Nat} {b x note : Nat} (hd : 31 ≤ d) (hC : RC w I L) (hO : OKW w) (hT : thkL w b L) (hx : x < 64) (ho : ¬ w (11 + x) = 1) (hn : note < 8) (kk : K (nI (nx w b (w 7) note x)) I L) : dd_Ev d m_X1_ledTo [.ref 141, .int (nI x), .int (nI note)] (sM Ln I L c s) (dd_RI Ln c s K) := by
  have w4 := hO.1.2.2.2.1
  have w7 := hO.1.2.2.2.2.2.2.1
  have t7 : tn (nI (w 7)) = w 7 := nI_clamp (by omega)
  have oo : opn w x = true := opn_t.mpr ⟨hx, ho⟩
  have no : ∀ nt, ldB w b (w 7) nt x = false → (note = 0 ↔ nt = 0) → nt ≤ 1 → nx w b (w 7) note x = x := by
    intro nt q e1 e2
    rw [nx_eq]
    by_cases z4 : x = w 4
    · rw [if_pos z4]
    · rw [if_neg z4]
      have : ledB w b (w 7) note x = false := by
        unfold ldB at q
        rw [oo, decide_eq_false z4] at q
        have q : ledB w b (w 7) nt x = false := q
        by_cases n0 : note = 0
        · rw [n0, ← e1.mp n0]; exact q
        · rw [ledB_n n0]
          have : nt = 1 := by omega
          rw [← this]; exact q
      rw [this, if_neg (by decide)]
  have yes : ∀ nt, ldB w b (w 7) nt x = true → (note = 0 ↔ nt = 0) → nt ≤ 1 → nx w b (w 7) note x = cby w x note := by
    intro nt q e1 e2
    unfold ldB at q
    rw [Bool.and_eq_true, Bool.and_eq_true, Bool.not_eq_true', decide_eq_false_iff_not] at q
    rw [nx_eq, if_neg q.2.1]
    have : ledB w b (w 7) note x = true := by
      by_cases n0 : note = 0
      · rw [n0, ← e1.mp n0]; exact q.2.2
      · rw [ledB_n n0]
        have : nt = 1 := by omega
        rw [← this]; exact q.2.2
    rw [this, if_pos rfl]
  refine w_X1_ledTo_0 (by omega) ?_
  rw [hC.beat, and7q (by omega), Nat.mod_eq_of_lt w7, t7, L_bit hx, L_bit hx, (hT _ w7 x hx).1, (hT _ w7 x hx).2, li_0, nI_eq (by omega) (by omega)]
  refine ⟨fun z => ⟨⟨nI_pos' (by omega), by omega⟩, fun z2 => ?_, fun z2 => ⟨fun _ => ?_, fun z3 => absurd z z3⟩⟩, fun z => ⟨⟨nI_pos' (by omega), by omega⟩, fun z2 => ?_, fun z2 => ⟨fun z3 => absurd z3 z, fun _ => ?_⟩⟩⟩
  · rw [no 0 z2 ⟨fun _ => rfl, fun _ => z⟩ (by omega)] at kk
    exact dd_qi kk
  · have zt : ldB w b (w 7) 0 x = true := by
      cases hz : ldB w b (w 7) 0 x with
      | true => rfl
      | false => exact absurd hz z2
    rw [yes 0 zt ⟨fun _ => rfl, fun _ => z⟩ (by omega)] at kk
    have : cby w x note = nrr w x := by unfold cby; rw [if_pos z]
    rw [this] at kk
    exact C_stepNearer (w := w) (by omega) hC w4 hx (dd_qi kk)
  · rw [no 1 z2 ⟨fun q => absurd q z, fun q => absurd q (by decide)⟩ (by omega)] at kk
    exact dd_qi kk
  · have zt : ldB w b (w 7) 1 x = true := by
      cases hz : ldB w b (w 7) 1 x with
      | true => rfl
      | false => exact absurd hz z2
    rw [yes 1 zt ⟨fun q => absurd q z, fun q => absurd q (by decide)⟩ (by omega)] at kk
    have : cby w x note = stp w x note := by
      by_cases n4 : note ≤ 4
      · exact cby_sd (by omega) n4
      · rw [cby_hi (by omega)]
        unfold stp
        rw [if_neg (by omega), if_neg (by omega), if_neg (by omega), if_neg (by omega)]
    rw [this] at kk
    exact C_stepTo (w := w) (by omega) hC hx (by omega) (dd_qi kk)
/-- the first note that is best -/
def fsN (w : Nat → Nat) (b x : Nat) : Option Nat := match frst (fun n => rs w b (w 7) x n (w 4)) 65 with | none => none | some F => frst (fun nt => rs w b (w 7 + 1) (nx w b (w 7) nt x) (F - 1) (w 4)) 8
theorem C_leastFirst {d Ln c s : Nat} {I : Nat → Nat → Int32} {L : Nat → Nat → Int64} {K : Int32 → (Nat → Nat → Int32) → (Nat → Nat → Int64) → Prop} {w : Nat → Nat} {b : Nat} (hd : 33 ≤ d) (hC : RC w I L) (hO : OKW w) (hL : RLw w I) (hb : b < 6) (ho : ¬ w (11 + w (187 + 5 * b)) = 1) (hn : ¬ w (187 + 5 * b) = w 4) (kk : ∀ I' L', FV 133 I I' → (∀ k, k ≠ 142 → k ≠ 143 → L' k = L k) → K (oI (fsN w b (w (187 + 5 * b)))) I' L') : dd_Ev d m_X1_leastFirst [.ref 141, .int (nI b)] (sM Ln I L c s) (dd_RI Ln c s K) := by
  have hk : (133 : Nat) = 133 ∨ (133 : Nat) = 136 := Or.inl rfl
  have w4 := hO.1.2.2.2.1
  have hx := (hO.2.2.2.1 b (by omega)).2.1
  have tb : tn (nI b) = b := nI_clamp (by omega)
  refine w_X1_leastFirst_0 (by omega) ?_
  refine C_thinkFor (w := w) (by omega) hC hO hL hb fun I1 L1 hT f1 l1 => ?_
  have c1 : RC w I1 L1 := (hC.fr f1 (kA hk)).of (fun _ _ _ => rfl) (l1 1 (by omega) (by omega))
  rw [tb, c1.cell hb, li_0, li_64]
  refine ⟨⟨nI_pos' (by omega), by omega⟩, ?_⟩
  refine C_fewest (w := w) (b := b) (by omega) c1 hO hT hx ho (by omega) (by omega) ?_
  have kk := kk I1 L1 f1 l1
  rw [Nat.add_zero]
  have run : ∀ o, frst (fun n => rs w b (w 7) (w (187 + 5 * b)) n (w 4)) 65 = o → dd_Rn d m_X1_leastFirst (27, [.ref 141, .int (nI b), .int (nI (w (187 + 5 * b))), .int (oI o), .int (nI 0)], [], sM Ln I1 L1 c s) (dd_RI Ln c s K) := by
    intro o eo
    cases o with
    | none =>
      unfold fsN at kk
      rw [eo] at kk
      refine w_X1_leastFirst_27 (by omega) ?_
      exact ⟨fun z => absurd z (by decide), fun _ => ⟨fun _ => dd_qi kk, fun z => absurd rfl z⟩⟩
    | some F =>
      unfold fsN at kk
      rw [eo] at kk
      have kk : K (oI (frst (fun nt => rs w b (w 7 + 1) (nx w b (w 7) nt (w (187 + 5 * b))) (F - 1) (w 4)) 8)) I1 L1 := kk
      have F65 : F < 65 ∧ 1 ≤ F := by
        rcases frst_cases (fun n => rs w b (w 7) (w (187 + 5 * b)) n (w 4)) 65 with ⟨h1, _⟩ | ⟨n, h1, h2, h3, _⟩
        · rw [eo] at h1; cases h1
        · rw [eo] at h2
          cases h2
          refine ⟨h1, ?_⟩
          refine Nat.pos_of_ne_zero (fun z => ?_)
          subst z
          have h3 : rs w b (w 7) (w (187 + 5 * b)) 0 (w 4) = true := h3
          rw [rs, decide_eq_true_eq] at h3
          exact hn h3.symm
      have ne : ¬ oI (some F) = -1 := fun z => by
        have : (nI F = -1) = False := nI_nm (by omega)
        exact (this ▸ z : False)
      have key : (∀ n, n < 0 → rs w b (w 7 + 1) (nx w b (w 7) n (w (187 + 5 * b))) (F - 1) (w 4) = false) → dd_Rn d m_X1_leastFirst (27, [.ref 141, .int (nI b), .int (nI (w (187 + 5 * b))), .int (oI (some F)), .int (nI 0)], [], sM Ln I1 L1 c s) (dd_RI Ln c s K) := by
        refine dd_lp (fun i => (∀ n, n < i → rs w b (w 7 + 1) (nx w b (w 7) n (w (187 + 5 * b))) (F - 1) (w 4) = false) → dd_Rn d m_X1_leastFirst (27, [.ref 141, .int (nI b), .int (nI (w (187 + 5 * b))), .int (oI (some F)), .int (nI i)], [], sM Ln I1 L1 c s) (dd_RI Ln c s K)) 8 ?_ ?_
        · intro hf
          refine w_X1_leastFirst_27 (by omega) ?_
          rw [li_8, nI_leI (by omega) (by omega)]
          rw [frst_none hf] at kk
          exact ⟨fun _ => dd_qi kk, fun z => absurd (Nat.le_refl _) z⟩
        · intro i hi ih hf
          refine w_X1_leastFirst_27 (by omega) ?_
          rw [li_8, nI_leI (by omega) (by omega)]
          simp only [nI_1]
          refine ⟨fun z => absurd z (by omega), fun _ => ⟨fun z => absurd z ne, fun _ => ?_⟩⟩
          refine C_ledTo (w := w) (b := b) (by omega) c1 hO hT hx ho hi ?_
          have eF : oI (some F) - 1 = nI (F - 1) := by
            show nI F - 1 = nI (F - 1)
            rw [li_1, pk_sub (by omega)]
          rw [eF, li_1]
          refine C_fewest (w := w) (b := b) (lt := 1) (m := F - 1) (by omega) c1 hO hT (nx_lt hx) (nx_op ho) (by omega) (by omega) ?_
          rcases frst_cases (fun n => rs w b (w 7 + 1) (nx w b (w 7) i (w (187 + 5 * b))) n (w 4)) (F - 1 + 1) with ⟨q1, q2⟩ | ⟨n, q1, q2, q3, _⟩
          · rw [q1]
            refine ⟨fun _ => ih (fun n hn => ?_), fun z => absurd rfl z⟩
            by_cases e : n = i
            · subst e; exact q2 (F - 1) (by omega)
            · exact hf n (by omega)
          · rw [q2]
            have ne2 : ¬ oI (some n) = -1 := fun z => by
              have : (nI n = -1) = False := nI_nm (by omega)
              exact (this ▸ z : False)
            refine ⟨fun z => absurd z ne2, fun _ => ?_⟩
            rw [frst_some (p := fun nt => rs w b (w 7 + 1) (nx w b (w 7) nt (w (187 + 5 * b))) (F - 1) (w 4)) (rs_mono w4 (show n ≤ F - 1 by omega) q3) hf hi] at kk
            exact dd_qi kk
      exact key (fun n hn => absurd hn (Nat.not_lt_zero n))
  exact run _ rfl
