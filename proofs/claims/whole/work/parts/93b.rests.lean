/-! rests -/
theorem gap14 (a b : Nat) (ha : a < 64) (hb : b < 64) : gap a b ≤ 14 := by unfold gap; omega
def rstV (x : Nat) : Int32 := if x ≤ 8 then 9 else 8
theorem r9x : ∀ x, x < 15 → ((9 : Int32) - nI x < 1) = (8 < x) := by
  intro x hx
  apply propext
  revert hx
  revert x
  decide +kernel
theorem C_rest40 {d Ln c s : Nat} {I : Nat → Nat → Int32} {L : Nat → Nat → Int64} {a1 : Int32} {x : Nat} {K : Int32 → (Nat → Nat → Int32) → (Nat → Nat → Int64) → Prop} {T : Nat → (Nat → Nat → Int32) → (Nat → Nat → Int64) → Prop} (hd : 28 ≤ d) (hx : x < 15) (k : K (rstV x) I L) : dd_Rn d m_X10_rests (40, [.ref 0, .int a1, .int (nI x), .int 0, .int 0, .null, .null, .null], [], sM Ln I L c s) (dd_TI Ln c s K T) := by
  have E11 : ∀ (a3 : Int32) (a6 a7 : Value), K (a3 ||| 8) I L → dd_Rn d m_X10_rests (49, [.ref 0, .int a1, .int (nI x), .int a3, .int 1, .int 1, a6, a7], [], sM Ln I L c s) (dd_TI Ln c s K T) := by
    intro a3 a6 a7 kk
    refine w_X10_rests_49 hd ?_
    simp +decide only [Bool.true_eq_false, Bool.false_eq_true, true_and, and_true, true_implies, false_implies, implies_true, not_true_eq_false, not_false_eq_true, ne_eq, forall_const]
    refine w_X10_rests_81 hd ?_
    simp +decide only [Bool.true_eq_false, Bool.false_eq_true, true_and, and_true, true_implies, false_implies, implies_true, not_true_eq_false, not_false_eq_true, ne_eq, forall_const]
    refine w_X10_rests_107 hd ?_
    simp +decide only [Bool.true_eq_false, Bool.false_eq_true, true_and, and_true, true_implies, false_implies, implies_true, not_true_eq_false, not_false_eq_true, ne_eq, forall_const]
    refine w_X10_rests_131 hd ?_
    refine w_X10_rests_49 hd ?_
    simp +decide only [Bool.true_eq_false, Bool.false_eq_true, true_and, and_true, true_implies, false_implies, implies_true, not_true_eq_false, not_false_eq_true, ne_eq, forall_const]
    refine w_X10_rests_40 hd ?_
    simp +decide only [Bool.true_eq_false, Bool.false_eq_true, true_and, and_true, true_implies, false_implies, implies_true, not_true_eq_false, not_false_eq_true, ne_eq, forall_const]
    exact dd_qT kk
  have E10 : ∀ (a3 : Int32) (a6 a7 : Value), K (a3 ||| 8) I L → dd_Rn d m_X10_rests (49, [.ref 0, .int a1, .int (nI x), .int a3, .int 1, .int 0, a6, a7], [], sM Ln I L c s) (dd_TI Ln c s K T) := by
    intro a3 a6 a7 kk
    have fin : ∀ b0 : Int32, dd_Rn d m_X10_rests (81, [.ref 0, .int a1, .int (nI x), .int a3, .int 1, .int 0, a6, a7], [.int b0], sM Ln I L c s) (dd_TI Ln c s K T) := by
      intro b0
      refine w_X10_rests_81 hd ?_
      simp +decide only [Bool.true_eq_false, Bool.false_eq_true, true_and, and_true, true_implies, false_implies, implies_true, not_true_eq_false, not_false_eq_true, ne_eq, forall_const]
      refine w_X10_rests_107 hd ?_
      simp +decide only [Bool.true_eq_false, Bool.false_eq_true, true_and, and_true, true_implies, false_implies, implies_true, not_true_eq_false, not_false_eq_true, ne_eq, forall_const]
      have go : dd_Rn d m_X10_rests (131, [.ref 0, .int a1, .int (nI x), .int a3, .int 1, .int 0, .int b0, .int 0], [], sM Ln I L c s) (dd_TI Ln c s K T) := by
        refine w_X10_rests_131 hd ?_
        exact E11 a3 _ _ kk
      exact ⟨fun _ => go, fun _ => go⟩
    refine w_X10_rests_49 hd ?_
    simp +decide only [Bool.true_eq_false, Bool.false_eq_true, true_and, and_true, true_implies, false_implies, implies_true, not_true_eq_false, not_false_eq_true, ne_eq, forall_const]
    exact ⟨fun _ => fin 0, fun _ => fin 1⟩
  have E01 : ∀ (a3 : Int32) (a6 a7 : Value), K (a3 ||| 8) I L → dd_Rn d m_X10_rests (49, [.ref 0, .int a1, .int (nI x), .int a3, .int 0, .int 1, a6, a7], [], sM Ln I L c s) (dd_TI Ln c s K T) := by
    intro a3 a6 a7 kk
    refine w_X10_rests_49 hd ?_
    simp +decide only [Bool.true_eq_false, Bool.false_eq_true, true_and, and_true, true_implies, false_implies, implies_true, not_true_eq_false, not_false_eq_true, ne_eq, forall_const]
    refine w_X10_rests_81 hd ?_
    simp +decide only [Bool.true_eq_false, Bool.false_eq_true, true_and, and_true, true_implies, false_implies, implies_true, not_true_eq_false, not_false_eq_true, ne_eq, forall_const]
    refine w_X10_rests_107 hd ?_
    simp +decide only [Bool.true_eq_false, Bool.false_eq_true, true_and, and_true, true_implies, false_implies, implies_true, not_true_eq_false, not_false_eq_true, ne_eq, forall_const]
    refine w_X10_rests_131 hd ?_
    refine w_X10_rests_49 hd ?_
    simp +decide only [Bool.true_eq_false, Bool.false_eq_true, true_and, and_true, true_implies, false_implies, implies_true, not_true_eq_false, not_false_eq_true, ne_eq, forall_const]
    refine w_X10_rests_40 hd ?_
    simp +decide only [Bool.true_eq_false, Bool.false_eq_true, true_and, and_true, true_implies, false_implies, implies_true, not_true_eq_false, not_false_eq_true, ne_eq, forall_const]
    exact E10 a3 _ _ kk
  refine w_X10_rests_40 hd ?_
  simp +decide only [Bool.true_eq_false, Bool.false_eq_true, true_and, and_true, true_implies, false_implies, implies_true, not_true_eq_false, not_false_eq_true, ne_eq, forall_const]
  refine w_X10_rests_49 hd ?_
  rw [r9x x hx]
  simp +decide only [Bool.true_eq_false, Bool.false_eq_true, true_and, and_true, true_implies, false_implies, implies_true, not_true_eq_false, not_false_eq_true, ne_eq, forall_const]
  unfold rstV at k
  refine ⟨fun q => ?_, fun q => ?_⟩
  · rw [if_neg (by omega)] at k
    refine w_X10_rests_81 hd ?_
    simp +decide only [Bool.true_eq_false, Bool.false_eq_true, true_and, and_true, true_implies, false_implies, implies_true, not_true_eq_false, not_false_eq_true, ne_eq, forall_const]
    refine w_X10_rests_107 hd ?_
    simp +decide only [Bool.true_eq_false, Bool.false_eq_true, true_and, and_true, true_implies, false_implies, implies_true, not_true_eq_false, not_false_eq_true, ne_eq, forall_const]
    refine w_X10_rests_131 hd ?_
    exact E01 0 _ _ k
  · rw [if_pos (by omega)] at k
    refine w_X10_rests_81 hd ?_
    simp +decide only [Bool.true_eq_false, Bool.false_eq_true, true_and, and_true, true_implies, false_implies, implies_true, not_true_eq_false, not_false_eq_true, ne_eq, forall_const]
    refine w_X10_rests_107 hd ?_
    simp +decide only [Bool.true_eq_false, Bool.false_eq_true, true_and, and_true, true_implies, false_implies, implies_true, not_true_eq_false, not_false_eq_true, ne_eq, forall_const]
    refine w_X10_rests_131 hd ?_
    exact E01 1 _ _ k
theorem r9m : ∀ x, x < 15 → ((9 : Int32) - nI x < 1 - 0) = (8 < x) := fun x hx => r9x x hx
theorem M_rest46 {d Ln c s : Nat} {I : Nat → Nat → Int32} {L : Nat → Nat → Int64} {K : Int32 → (Nat → Nat → Int32) → (Nat → Nat → Int64) → Prop} {a1 : Int32} {x : Nat} (hd : 28 ≤ d) (hx : x < 15) (k : K (rstV x) I L) : dd_Rn d m_X11_rests (46, [.ref 148, .int a1, .int (nI x), .int 0, .int 0, .null], [], sM Ln I L c s) (dd_RI Ln c s K) := by
  have E11 : ∀ (a3 : Int32), K (a3 ||| 8) I L → dd_Rn d m_X11_rests (55, [.ref 148, .int a1, .int (nI x), .int a3, .int 1, .int 1], [], sM Ln I L c s) (dd_RI Ln c s K) := by
    intro a3 kk
    refine w_X11_rests_55 hd ?_
    simp +decide only [Bool.true_eq_false, Bool.false_eq_true, true_and, and_true, true_implies, false_implies, implies_true, not_true_eq_false, not_false_eq_true, ne_eq, forall_const]
    refine w_X11_rests_117 hd ?_
    refine w_X11_rests_55 hd ?_
    simp +decide only [Bool.true_eq_false, Bool.false_eq_true, true_and, and_true, true_implies, false_implies, implies_true, not_true_eq_false, not_false_eq_true, ne_eq, forall_const]
    refine w_X11_rests_46 hd ?_
    simp +decide only [Bool.true_eq_false, Bool.false_eq_true, true_and, and_true, true_implies, false_implies, implies_true, not_true_eq_false, not_false_eq_true, ne_eq, forall_const]
    exact dd_qi kk
  have E10 : ∀ (a3 : Int32), K (a3 ||| 8) I L → dd_Rn d m_X11_rests (55, [.ref 148, .int a1, .int (nI x), .int a3, .int 1, .int 0], [], sM Ln I L c s) (dd_RI Ln c s K) := by
    intro a3 kk
    have go : dd_Rn d m_X11_rests (116, [.ref 148, .int a1, .int (nI x), .int a3, .int 1, .int 0], [.int a3], sM Ln I L c s) (dd_RI Ln c s K) := by
      refine w_X11_rests_116 hd ?_
      refine w_X11_rests_117 hd ?_
      rw [show a3 ||| 0 = a3 from bX_ext (fun i hi => by rw [bX_or, bX_0, Bool.or_false])]
      exact E11 a3 kk
    refine w_X11_rests_55 hd ?_
    simp +decide only [Bool.true_eq_false, Bool.false_eq_true, true_and, and_true, true_implies, false_implies, implies_true, not_true_eq_false, not_false_eq_true, ne_eq, forall_const]
    exact ⟨fun _ => go, fun _ => go⟩
  have E01 : ∀ (a3 : Int32), K (a3 ||| 8) I L → dd_Rn d m_X11_rests (55, [.ref 148, .int a1, .int (nI x), .int a3, .int 0, .int 1], [], sM Ln I L c s) (dd_RI Ln c s K) := by
    intro a3 kk
    refine w_X11_rests_55 hd ?_
    simp +decide only [Bool.true_eq_false, Bool.false_eq_true, true_and, and_true, true_implies, false_implies, implies_true, not_true_eq_false, not_false_eq_true, ne_eq, forall_const]
    refine w_X11_rests_116 hd ?_
    refine w_X11_rests_117 hd ?_
    rw [show a3 ||| 0 = a3 from bX_ext (fun i hi => by rw [bX_or, bX_0, Bool.or_false])]
    refine w_X11_rests_55 hd ?_
    simp +decide only [Bool.true_eq_false, Bool.false_eq_true, true_and, and_true, true_implies, false_implies, implies_true, not_true_eq_false, not_false_eq_true, ne_eq, forall_const]
    refine w_X11_rests_46 hd ?_
    simp +decide only [Bool.true_eq_false, Bool.false_eq_true, true_and, and_true, true_implies, false_implies, implies_true, not_true_eq_false, not_false_eq_true, ne_eq, forall_const]
    exact E10 a3 kk
  refine w_X11_rests_46 hd ?_
  simp +decide only [Bool.true_eq_false, Bool.false_eq_true, true_and, and_true, true_implies, false_implies, implies_true, not_true_eq_false, not_false_eq_true, ne_eq, forall_const]
  refine w_X11_rests_55 hd ?_
  rw [r9m x hx]
  simp +decide only [Bool.true_eq_false, Bool.false_eq_true, true_and, and_true, true_implies, false_implies, implies_true, not_true_eq_false, not_false_eq_true, ne_eq, forall_const]
  unfold rstV at k
  refine ⟨fun q => ?_, fun q => ?_⟩
  · rw [if_neg (by omega)] at k
    refine w_X11_rests_116 hd ?_
    refine w_X11_rests_117 hd ?_
    exact E01 0 k
  · rw [if_pos (by omega)] at k
    refine w_X11_rests_117 hd ?_
    exact E01 1 k
theorem A_rests {d Ln c s : Nat} {I0 I : Nat → Nat → Int32} {L : Nat → Nat → Int64} {w : Nat → Nat} {im : Option (Nat → Nat)} {na od : Nat} {A : Nat → Nat → Nat} {tp : Nat → Nat} {tl : Nat} {fa : Option Nat} (hd : 60 ≤ d) (h : INV I0 w im na od A tp tl fa I L) (a : Int32) : PW d m_L_rests [.ref 0, .int a, .ref 163] m_X11_rests [.ref 148, .int a] I0 Ln c s I L := by
  have hO := h.1.1
  have hC := h.2.2.1
  have w1 := hO.1.2.1
  have w4 := hO.1.2.2.2.1
  by_cases hv : vld a (w 1)
  · obtain ⟨b, hb, rfl⟩ := vld_i (by omega) hv
    obtain ⟨b0, b1, b2, b3, b4, b5⟩ := hO.2.2.2.1 b (by omega)
    have tb : tn (nI b) = b := nI_clamp (by omega)
    have e3 : (187 : Int32) + (5 : Int32) * nI b + 3 = nI (187 + 5 * b + 3) := by rw [li_187, li_5, li_3, pk_mul, nI_add, nI_add]
    have e0 : (187 : Int32) + (5 : Int32) * nI b + 0 = nI (187 + 5 * b) := by rw [li_187, li_5, li_0, pk_mul, nI_add, nI_add, Nat.add_zero]
    have t3 : tn (nI (187 + 5 * b + 3)) = 187 + 5 * b + 3 := nI_clamp (by omega)
    have t0 : tn (nI (187 + 5 * b)) = 187 + 5 * b := nI_clamp (by omega)
    have g14 := gap14 (w (187 + 5 * b)) (w 4) b1 w4
    refine PW.q h _ (if w (187 + 5 * b + 3) = 1 then -1 else rstV (gap (w (187 + 5 * b)) (w 4))) (WR1 (e1 := 2) (o := none) (w_L_rests_0 (by omega)) (Or.inl rfl) ?_) ?_
    · intro K T g1 g2
      refine w_X10_rests_0 (by omega) (rqC hC.boys (fun z => absurd hv z) fun _ => ?_)
      refine C_isIn (w := w) (by omega) hC (by omega) ?_
      rw [bI_z, tb, hC.cell (by omega)]
      refine ⟨fun z => ⟨⟨nI_pos' (by omega), by omega⟩, ?_⟩, fun z => ?_⟩
      · rw [if_neg (of_decide_eq_false z)] at g1
        refine C_nearOf (w := w) (by omega) hC b1 w4 ?_
        exact C_rest40 (by omega) (by omega) (g1 rfl I L (FC.refl I L))
      · rw [if_pos (Decidable.of_not_not (fun z2 => z (decide_eq_false z2)))] at g1
        exact dd_qT (g1 rfl I L (FC.refl I L))
    · intro I1 L1 c1 s1 h1 K g
      have hR := h1.2.1
      refine w_X11_rests_0 (by omega) (rqM (hR.g (by omega)) (by omega) (fun z => absurd hv z) fun _ => ?_)
      rw [e3, t3, e0, t0, hR.g (show 187 + 5 * b + 3 < 1371 by omega), hR.g (show 187 + 5 * b < 1371 by omega), nI1i (by omega)]
      refine ⟨⟨nI_pos' (by omega), by omega⟩, fun z => ?_, fun z => ⟨⟨nI_pos' (by omega), by omega⟩, ?_⟩⟩
      · rw [if_pos z] at g
        exact mqR hR rfl g
      · rw [if_neg z] at g
        refine M_nearOf (w := w) (by omega) (hR.of (dd_un (by decide))) b1 w4 ?_
        exact M_rest46 (by omega) (by omega) (g _ _ (hR.of (dd_un (by decide))) (FM.th I1 0) thr0 (fun _ => rfl))
  · refine PW.q h _ 0 (WR1 (e1 := 2) (o := some 2) (w_L_rests_0 (by omega)) (Or.inr rfl) ?_) ?_
    · intro K T g1 g2
      exact w_X10_rests_0 (by omega) (rqC hC.boys (fun _ => dd_qX (g2 2 rfl)) fun z => absurd z hv)
    · intro I1 L1 c1 s1 h1 K g
      have hR := h1.2.1
      refine w_X11_rests_0 (by omega) ?_
      simp only [dd_u_u, upd_uu]
      exact rqM (hR.g (by omega)) (by omega) (fun _ => mqT hR (by decide) g) fun z => absurd z hv
