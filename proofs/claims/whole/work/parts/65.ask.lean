/-! Questions: far, worst, ferny -/
theorem oI_ne {m : Nat} (h : m < 2 ^ 31) : ¬ oI (some m) = -1 := fun z => by
  have e : (nI m = -1) = False := nI_nm h
  exact (e ▸ z : False)
theorem A_far {d Ln c s : Nat} {I0 I : Nat → Nat → Int32} {L : Nat → Nat → Int64} {w : Nat → Nat} {im : Option (Nat → Nat)} {na od : Nat} {A : Nat → Nat → Nat} {tp : Nat → Nat} {tl : Nat} {fa : Option Nat} (hd : 60 ≤ d) (h : INV I0 w im na od A tp tl fa I L) : PIw d m_X10_far [.ref 0] m_X11_far [.ref 148] I0 Ln c s I L := by
  have hO := h.1.1
  have w1 := hO.1.2.1
  have w4 := hO.1.2.2.2.1
  have hC := h.2.2.1
  have fl : ∀ b, b < 6 → gap (w (187 + 5 * b)) (w 4) ≤ 14 := fun b hb => gap_lt (hO.2.2.2.1 b (by omega)).2.1 w4
  refine PIw.q h (oI (amA (fun b => gap (w (187 + 5 * b)) (w 4)) (fun b => !decide (w (187 + 5 * b + 3) = 1)) (w 1))) ?_ ?_
  · intro K g
    refine w_X10_far_0 (by omega) ?_
    have key : ∀ a4 : Value, dd_Rn d m_X10_far (6, [.ref 0, .int (oI (amA (fun b => gap (w (187 + 5 * b)) (w 4)) (fun b => !decide (w (187 + 5 * b + 3) = 1)) 0)), .int (mst (fun b => gap (w (187 + 5 * b)) (w 4)) (amA (fun b => gap (w (187 + 5 * b)) (w 4)) (fun b => !decide (w (187 + 5 * b + 3) = 1)) 0)), .int (nI 0), a4], [], sM Ln I L c s) (dd_RI Ln c s K) := by
      refine dd_lp (fun i => ∀ a4 : Value, dd_Rn d m_X10_far (6, [.ref 0, .int (oI (amA (fun b => gap (w (187 + 5 * b)) (w 4)) (fun b => !decide (w (187 + 5 * b + 3) = 1)) i)), .int (mst (fun b => gap (w (187 + 5 * b)) (w 4)) (amA (fun b => gap (w (187 + 5 * b)) (w 4)) (fun b => !decide (w (187 + 5 * b + 3) = 1)) i)), .int (nI i), a4], [], sM Ln I L c s) (dd_RI Ln c s K)) (w 1) ?_ ?_
      · intro a4
        refine w_X10_far_6 (by omega) ?_
        rw [hC.boys, nI_leI (by omega) (by omega)]
        exact ⟨fun _ => dd_qi (g I L (FC.refl I L)), fun q => absurd (Nat.le_refl _) q⟩
      · intro i hi ih a4
        have fi := fl i (by omega)
        have b1 := (hO.2.2.2.1 i (by omega)).2.1
        refine w_X10_far_6 (by omega) ?_
        rw [hC.boys, nI_leI (by omega) (by omega), show tn (nI i) = i from nI_clamp (by omega), hC.cell (by omega)]
        refine ⟨fun q => absurd q (by omega), fun _ => ⟨⟨nI_pos' (by omega), by omega⟩, ?_⟩⟩
        refine C_nearOf (by omega) hC b1 w4 ?_
        refine C_isIn (by omega) hC (by omega) ?_
        simp only [nI_1, bI_0]
        cases ho : amA (fun b => gap (w (187 + 5 * b)) (w 4)) (fun b => !decide (w (187 + 5 * b + 3) = 1)) i with
        | none =>
          rw [amA_n ho] at ih
          refine ⟨fun q0 => ⟨fun q => ?_, fun _ => ?_⟩, fun q0 => ?_⟩
          · have e : (nI (gap (w (187 + 5 * i)) (w 4)) ≤ -1) = False := nI_nle1 (by omega)
            exact (e ▸ q : False).elim
          · rw [if_pos (by rw [q0]; rfl)] at ih
            exact ih _
          · rw [Bool.not_eq_false] at q0
            rw [if_neg (by rw [q0]; decide)] at ih
            exact ih _
        | some m =>
          rw [amA_m ho] at ih
          have fm := fl m (by have := amA_lt ho; omega)
          show (_ → (nI (gap (w (187 + 5 * i)) (w 4)) ≤ nI (gap (w (187 + 5 * m)) (w 4)) → _) ∧ (¬ nI (gap (w (187 + 5 * i)) (w 4)) ≤ nI (gap (w (187 + 5 * m)) (w 4)) → _)) ∧ _
          rw [nI_leI (by omega) (by omega)]
          refine ⟨fun q0 => ⟨fun q => ?_, fun q => ?_⟩, fun q0 => ?_⟩
          · rw [if_neg (fun z => by have := z.2; omega)] at ih
            exact ih _
          · rw [if_pos ⟨by rw [q0]; rfl, by omega⟩] at ih
            exact ih _
          · rw [Bool.not_eq_false] at q0
            rw [if_neg (fun z => by have := z.1; rw [q0] at this; cases this)] at ih
            exact ih _
    exact key .null
  · intro I1 L1 h1 K g
    have hR := h1.2.1
    refine w_X11_far_0 (by omega) ?_
    have fj := FM.th I1 0
    have t0 := thr0 (I := I1) (v := 0)
    have hR1 : RM w (dd_u I1 148 (upd (I1 148) 0 0)) := hR.of (dd_un (by decide))
    generalize dd_u I1 148 (upd (I1 148) 0 0) = J at *
    refine dd_lp (fun i => dd_Rn d m_X11_far (9, [.ref 148, .int (oI (amA (fun b => gap (w (187 + 5 * b)) (w 4)) (fun b => !decide (w (187 + 5 * b + 3) = 1)) i)), .int (nI i)], [], sM Ln J L1 c s) (dd_RI Ln c s K)) (w 1) ?_ ?_
    · refine w_X11_far_9 (by omega) ?_
      rw [hR1.g (by omega), nI_leI (by omega) (by omega)]
      exact ⟨fun _ => mqJ hR1 fj t0 rfl g, fun q => absurd (Nat.le_refl _) q⟩
    · intro i hi ih
      have fi := fl i (by omega)
      obtain ⟨_, b1, _, _, b4, _⟩ := hO.2.2.2.1 i (by omega)
      cases ho : amA (fun b => gap (w (187 + 5 * b)) (w 4)) (fun b => !decide (w (187 + 5 * b + 3) = 1)) i with
      | none =>
        rw [amA_n ho] at ih
        refine w_X11_far_9 (by omega) ?_
        rw [oI_n]
        simp (disch := omega) only [nI_add, pk_mul, tn, nI_clamp, nI_eq, nI_leI, nI_ltI, pk_sub, pk_div, pk_rem, nI_nm, nI_nm2, nI_nle1, nI_nlt1, nI_le1, nI_lt1, li_0, li_1, li_2, li_3, li_4, li_5, li_6, li_7, li_8, li_9, li_10, li_11, li_12, li_13, li_14, li_15, li_16, li_17, li_18, li_19, li_20, li_21, li_22, li_23, li_24, li_25, li_26, li_27, li_28, li_29, li_30, li_31, li_32, li_33, li_34, li_35, li_36, li_37, li_38, li_39, li_40, li_41, li_42, li_43, li_44, li_45, li_46, li_47, li_48, li_49, li_50, li_51, li_52, li_53, li_54, li_55, li_56, li_57, li_58, li_59, li_60, li_61, li_62, li_63, li_64, li_65, li_66, li_67, li_68, li_69, li_75, li_97, li_99, li_100, li_101, li_102, li_120, li_122, li_127, li_139, li_187, li_222, li_223, li_224, li_225, li_226, li_255, li_256, li_299, li_400, li_465, li_522, li_523, li_571, li_849, li_999, li_1000, li_1100, li_1371, li_1372, li_1420, li_1984, li_2220, li_5742, li_6264, li_9999, li_10000, li_12345, li_32767, li_65536, li_1000000, li_252645135, li_858993459, li_1103515245, li_1431655765, dd_us, dd_un, dd_u_u, pk_us, pk_un, Bool.true_eq_false, Bool.false_eq_true, true_and, and_true, true_implies, false_implies, implies_true, not_true_eq_false, not_false_eq_true, ne_eq, forall_const, sdm, Nat.add_zero, Nat.zero_add, sb_m1n, nmn1, nmn2, nmn3, nmn4, nmn5, nmn6, bI_0n, bI_1n, ck_and, im_t, im_f, if_pos, if_neg, hR1.g]
        refine ⟨fun q => ?_, fun q => ?_⟩
        · rw [if_neg (by rw [decide_eq_true q]; decide)] at ih
          exact ih
        · rw [if_pos (by rw [decide_eq_false q]; rfl)] at ih
          exact ih
      | some m =>
        rw [amA_m ho] at ih
        have hm := amA_lt ho
        have fm := fl m (by omega)
        have m1 := (hO.2.2.2.1 m (by omega)).2.1
        refine w_X11_far_9 (by omega) ?_
        rw [oI_s]
        simp (disch := omega) only [nI_add, pk_mul, tn, nI_clamp, nI_eq, nI_leI, nI_ltI, pk_sub, pk_div, pk_rem, nI_nm, nI_nm2, nI_nle1, nI_nlt1, nI_le1, nI_lt1, li_0, li_1, li_2, li_3, li_4, li_5, li_6, li_7, li_8, li_9, li_10, li_11, li_12, li_13, li_14, li_15, li_16, li_17, li_18, li_19, li_20, li_21, li_22, li_23, li_24, li_25, li_26, li_27, li_28, li_29, li_30, li_31, li_32, li_33, li_34, li_35, li_36, li_37, li_38, li_39, li_40, li_41, li_42, li_43, li_44, li_45, li_46, li_47, li_48, li_49, li_50, li_51, li_52, li_53, li_54, li_55, li_56, li_57, li_58, li_59, li_60, li_61, li_62, li_63, li_64, li_65, li_66, li_67, li_68, li_69, li_75, li_97, li_99, li_100, li_101, li_102, li_120, li_122, li_127, li_139, li_187, li_222, li_223, li_224, li_225, li_226, li_255, li_256, li_299, li_400, li_465, li_522, li_523, li_571, li_849, li_999, li_1000, li_1100, li_1371, li_1372, li_1420, li_1984, li_2220, li_5742, li_6264, li_9999, li_10000, li_12345, li_32767, li_65536, li_1000000, li_252645135, li_858993459, li_1103515245, li_1431655765, dd_us, dd_un, dd_u_u, pk_us, pk_un, Bool.true_eq_false, Bool.false_eq_true, true_and, and_true, true_implies, false_implies, implies_true, not_true_eq_false, not_false_eq_true, ne_eq, forall_const, sdm, Nat.add_zero, Nat.zero_add, sb_m1n, nmn1, nmn2, nmn3, nmn4, nmn5, nmn6, bI_0n, bI_1n, ck_and, im_t, im_f, if_pos, if_neg, hR1.g]
        refine ⟨fun q => ?_, fun q => ?_⟩
        · rw [if_neg (fun z => by have := z.1; rw [decide_eq_true q] at this; cases this)] at ih
          exact ih
        · refine M_nearOf (by omega) hR1 b1 w4 ?_
          simp (disch := omega) only [nI_add, pk_mul, tn, nI_clamp, nI_eq, nI_leI, nI_ltI, pk_sub, pk_div, pk_rem, nI_nm, nI_nm2, nI_nle1, nI_nlt1, nI_le1, nI_lt1, li_0, li_1, li_2, li_3, li_4, li_5, li_6, li_7, li_8, li_9, li_10, li_11, li_12, li_13, li_14, li_15, li_16, li_17, li_18, li_19, li_20, li_21, li_22, li_23, li_24, li_25, li_26, li_27, li_28, li_29, li_30, li_31, li_32, li_33, li_34, li_35, li_36, li_37, li_38, li_39, li_40, li_41, li_42, li_43, li_44, li_45, li_46, li_47, li_48, li_49, li_50, li_51, li_52, li_53, li_54, li_55, li_56, li_57, li_58, li_59, li_60, li_61, li_62, li_63, li_64, li_65, li_66, li_67, li_68, li_69, li_75, li_97, li_99, li_100, li_101, li_102, li_120, li_122, li_127, li_139, li_187, li_222, li_223, li_224, li_225, li_226, li_255, li_256, li_299, li_400, li_465, li_522, li_523, li_571, li_849, li_999, li_1000, li_1100, li_1371, li_1372, li_1420, li_1984, li_2220, li_5742, li_6264, li_9999, li_10000, li_12345, li_32767, li_65536, li_1000000, li_252645135, li_858993459, li_1103515245, li_1431655765, dd_us, dd_un, dd_u_u, pk_us, pk_un, Bool.true_eq_false, Bool.false_eq_true, true_and, and_true, true_implies, false_implies, implies_true, not_true_eq_false, not_false_eq_true, ne_eq, forall_const, sdm, Nat.add_zero, Nat.zero_add, sb_m1n, nmn1, nmn2, nmn3, nmn4, nmn5, nmn6, bI_0n, bI_1n, ck_and, im_t, im_f, if_pos, if_neg, hR1.g]
          refine M_nearOf (by omega) hR1 m1 w4 ?_
          rw [nI_leI (by omega) (by omega)]
          refine ⟨fun q2 => ?_, fun q2 => ?_⟩
          · rw [if_neg (fun z => by have := z.2; omega)] at ih
            exact ih
          · rw [if_pos ⟨by rw [decide_eq_false q]; rfl, by omega⟩] at ih
            exact ih
theorem A_worst {d Ln c s : Nat} {I0 I : Nat → Nat → Int32} {L : Nat → Nat → Int64} {w : Nat → Nat} {im : Option (Nat → Nat)} {na od : Nat} {A : Nat → Nat → Nat} {tp : Nat → Nat} {tl : Nat} {fa : Option Nat} (hd : 60 ≤ d) (h : INV I0 w im na od A tp tl fa I L) : PIw d m_X10_worst [.ref 0] m_X11_worst [.ref 148] I0 Ln c s I L := by
  have hO := h.1.1
  have w1 := hO.1.2.1
  have hC := h.2.2.1
  have fl : ∀ b, b < 6 → w (187 + 5 * b + 4) ≤ 99 := fun b hb => (hO.2.2.2.1 b (by omega)).2.2.2.2.2
  refine PIw.q h (oI (amA (fun b => w (187 + 5 * b + 4)) (fun b => decide (0 < w (187 + 5 * b + 4))) (w 1))) ?_ ?_
  · intro K g
    refine w_X10_worst_0 (by omega) ?_
    refine dd_lp (fun i => dd_Rn d m_X10_worst (6, [.ref 0, .int (oI (amA (fun b => w (187 + 5 * b + 4)) (fun b => decide (0 < w (187 + 5 * b + 4))) i)), .int (mst0 (fun b => w (187 + 5 * b + 4)) (amA (fun b => w (187 + 5 * b + 4)) (fun b => decide (0 < w (187 + 5 * b + 4))) i)), .int (nI i)], [], sM Ln I L c s) (dd_RI Ln c s K)) (w 1) ?_ ?_
    · refine w_X10_worst_6 (by omega) ?_
      rw [hC.boys, nI_leI (by omega) (by omega)]
      exact ⟨fun _ => dd_qi (g I L (FC.refl I L)), fun q => absurd (Nat.le_refl _) q⟩
    · intro i hi ih
      have fi := fl i (by omega)
      refine w_X10_worst_6 (by omega) ?_
      rw [hC.boys, nI_leI (by omega) (by omega), show tn (nI i) = i from nI_clamp (by omega), hC.bad (by omega)]
      simp only [nI_1]
      refine ⟨fun q => absurd q (by omega), fun _ => ⟨⟨nI_pos' (by omega), by omega⟩, ?_⟩⟩
      cases ho : amA (fun b => w (187 + 5 * b + 4)) (fun b => decide (0 < w (187 + 5 * b + 4))) i with
      | none =>
        rw [amA_n ho] at ih
        show (nI (w (187 + 5 * i + 4)) ≤ nI 0 → _) ∧ (¬ nI (w (187 + 5 * i + 4)) ≤ nI 0 → _)
        rw [nI_leI (by omega) (by omega)]
        refine ⟨fun q => ?_, fun q => ⟨⟨nI_pos' (by omega), by omega⟩, ?_⟩⟩
        · rw [if_neg (by rw [decide_eq_false (by omega)]; decide)] at ih
          exact ih
        · rw [if_pos (decide_eq_true (by omega))] at ih
          exact ih
      | some m =>
        rw [amA_m ho] at ih
        have fm := fl m (by have := amA_lt ho; omega)
        show (nI (w (187 + 5 * i + 4)) ≤ nI (w (187 + 5 * m + 4)) → _) ∧ (¬ nI (w (187 + 5 * i + 4)) ≤ nI (w (187 + 5 * m + 4)) → _)
        rw [nI_leI (by omega) (by omega)]
        refine ⟨fun q => ?_, fun q => ⟨⟨nI_pos' (by omega), by omega⟩, ?_⟩⟩
        · rw [if_neg (fun z => by have := z.2; omega)] at ih
          exact ih
        · rw [if_pos ⟨decide_eq_true (by omega), by omega⟩] at ih
          exact ih
  · intro I1 L1 h1 K g
    have hR := h1.2.1
    refine w_X11_worst_0 (by omega) ?_
    have fj := FM.th I1 0
    have t0 := thr0 (I := I1) (v := 0)
    have hR1 : RM w (dd_u I1 148 (upd (I1 148) 0 0)) := hR.of (dd_un (by decide))
    generalize dd_u I1 148 (upd (I1 148) 0 0) = J at *
    refine dd_lp (fun i => dd_Rn d m_X11_worst (9, [.ref 148, .int (oI (amA (fun b => w (187 + 5 * b + 4)) (fun b => decide (0 < w (187 + 5 * b + 4))) i)), .int (nI i)], [], sM Ln J L1 c s) (dd_RI Ln c s K)) (w 1) ?_ ?_
    · refine w_X11_worst_9 (by omega) ?_
      rw [hR1.g (by omega), nI_leI (by omega) (by omega)]
      exact ⟨fun _ => mqJ hR1 fj t0 rfl g, fun q => absurd (Nat.le_refl _) q⟩
    · intro i hi ih
      have fi := fl i (by omega)
      cases ho : amA (fun b => w (187 + 5 * b + 4)) (fun b => decide (0 < w (187 + 5 * b + 4))) i with
      | none =>
        rw [amA_n ho] at ih
        refine w_X11_worst_9 (by omega) ?_
        rw [oI_n]
        simp (disch := omega) only [nI_add, pk_mul, tn, nI_clamp, nI_eq, nI_leI, nI_ltI, pk_sub, pk_div, pk_rem, nI_nm, nI_nm2, nI_nle1, nI_nlt1, nI_le1, nI_lt1, li_0, li_1, li_2, li_3, li_4, li_5, li_6, li_7, li_8, li_9, li_10, li_11, li_12, li_13, li_14, li_15, li_16, li_17, li_18, li_19, li_20, li_21, li_22, li_23, li_24, li_25, li_26, li_27, li_28, li_29, li_30, li_31, li_32, li_33, li_34, li_35, li_36, li_37, li_38, li_39, li_40, li_41, li_42, li_43, li_44, li_45, li_46, li_47, li_48, li_49, li_50, li_51, li_52, li_53, li_54, li_55, li_56, li_57, li_58, li_59, li_60, li_61, li_62, li_63, li_64, li_65, li_66, li_67, li_68, li_69, li_75, li_97, li_99, li_100, li_101, li_102, li_120, li_122, li_127, li_139, li_187, li_222, li_223, li_224, li_225, li_226, li_255, li_256, li_299, li_400, li_465, li_522, li_523, li_571, li_849, li_999, li_1000, li_1100, li_1371, li_1372, li_1420, li_1984, li_2220, li_5742, li_6264, li_9999, li_10000, li_12345, li_32767, li_65536, li_1000000, li_252645135, li_858993459, li_1103515245, li_1431655765, dd_us, dd_un, dd_u_u, pk_us, pk_un, Bool.true_eq_false, Bool.false_eq_true, true_and, and_true, true_implies, false_implies, implies_true, not_true_eq_false, not_false_eq_true, ne_eq, forall_const, sdm, Nat.add_zero, Nat.zero_add, sb_m1n, nmn1, nmn2, nmn3, nmn4, nmn5, nmn6, bI_0n, bI_1n, ck_and, im_t, im_f, if_pos, if_neg, hR1.g]
        refine ⟨fun q => ?_, fun q => ?_⟩
        · rw [if_neg (by rw [decide_eq_false (by omega)]; decide)] at ih
          exact ih
        · rw [if_pos (decide_eq_true (by omega))] at ih
          exact ih
      | some m =>
        rw [amA_m ho] at ih
        have hm := amA_lt ho
        have fm := fl m (by omega)
        refine w_X11_worst_9 (by omega) ?_
        rw [oI_s]
        simp (disch := omega) only [nI_add, pk_mul, tn, nI_clamp, nI_eq, nI_leI, nI_ltI, pk_sub, pk_div, pk_rem, nI_nm, nI_nm2, nI_nle1, nI_nlt1, nI_le1, nI_lt1, li_0, li_1, li_2, li_3, li_4, li_5, li_6, li_7, li_8, li_9, li_10, li_11, li_12, li_13, li_14, li_15, li_16, li_17, li_18, li_19, li_20, li_21, li_22, li_23, li_24, li_25, li_26, li_27, li_28, li_29, li_30, li_31, li_32, li_33, li_34, li_35, li_36, li_37, li_38, li_39, li_40, li_41, li_42, li_43, li_44, li_45, li_46, li_47, li_48, li_49, li_50, li_51, li_52, li_53, li_54, li_55, li_56, li_57, li_58, li_59, li_60, li_61, li_62, li_63, li_64, li_65, li_66, li_67, li_68, li_69, li_75, li_97, li_99, li_100, li_101, li_102, li_120, li_122, li_127, li_139, li_187, li_222, li_223, li_224, li_225, li_226, li_255, li_256, li_299, li_400, li_465, li_522, li_523, li_571, li_849, li_999, li_1000, li_1100, li_1371, li_1372, li_1420, li_1984, li_2220, li_5742, li_6264, li_9999, li_10000, li_12345, li_32767, li_65536, li_1000000, li_252645135, li_858993459, li_1103515245, li_1431655765, dd_us, dd_un, dd_u_u, pk_us, pk_un, Bool.true_eq_false, Bool.false_eq_true, true_and, and_true, true_implies, false_implies, implies_true, not_true_eq_false, not_false_eq_true, ne_eq, forall_const, sdm, Nat.add_zero, Nat.zero_add, sb_m1n, nmn1, nmn2, nmn3, nmn4, nmn5, nmn6, bI_0n, bI_1n, ck_and, im_t, im_f, if_pos, if_neg, hR1.g]
        refine ⟨fun q => ?_, fun q => ⟨fun q2 => ?_, fun q2 => ?_⟩⟩
        · rw [if_neg (fun z => by have := z.2; omega)] at ih
          exact ih
        · rw [if_neg (fun z => by have := z.2; omega)] at ih
          exact ih
        · rw [if_pos ⟨decide_eq_true (by omega), by omega⟩] at ih
          exact ih
theorem A_ferny {d Ln c s : Nat} {I0 I : Nat → Nat → Int32} {L : Nat → Nat → Int64} {w : Nat → Nat} {im : Option (Nat → Nat)} {na od : Nat} {A : Nat → Nat → Nat} {tp : Nat → Nat} {tl : Nat} {fa : Option Nat} (hd : 60 ≤ d) (h : INV I0 w im na od A tp tl fa I L) : PIw d m_X10_ferny [.ref 0] m_X11_ferny [.ref 148] I0 Ln c s I L := by
  have hO := h.1.1
  have hC := h.2.2.1
  have fl : ∀ b, b < 64 → w (75 + b) ≤ 9 := fun b hb => (hO.2.1 b hb).2
  refine PIw.q h (oI (amA (fun b => w (75 + b)) (fun b => decide (0 < w (75 + b))) 64)) ?_ ?_
  · intro K g
    refine w_X10_ferny_0 (by omega) ?_
    refine dd_lp (fun i => dd_Rn d m_X10_ferny (6, [.ref 0, .int (oI (amA (fun b => w (75 + b)) (fun b => decide (0 < w (75 + b))) i)), .int (mst0 (fun b => w (75 + b)) (amA (fun b => w (75 + b)) (fun b => decide (0 < w (75 + b))) i)), .int (nI i)], [], sM Ln I L c s) (dd_RI Ln c s K)) 64 ?_ ?_
    · refine w_X10_ferny_6 (by omega) ?_
      rw [li_64, nI_leI (by omega) (by omega)]
      exact ⟨fun _ => dd_qi (g I L (FC.refl I L)), fun q => absurd (Nat.le_refl _) q⟩
    · intro i hi ih
      have fi := fl i (by omega)
      refine w_X10_ferny_6 (by omega) ?_
      rw [li_64, nI_leI (by omega) (by omega), show tn (nI i) = i from nI_clamp (by omega), hC.fern (by omega)]
      simp only [nI_1]
      refine ⟨fun q => absurd q (by omega), fun _ => ⟨⟨nI_pos' (by omega), by omega⟩, ?_⟩⟩
      cases ho : amA (fun b => w (75 + b)) (fun b => decide (0 < w (75 + b))) i with
      | none =>
        rw [amA_n ho] at ih
        show (nI (w (75 + i)) ≤ nI 0 → _) ∧ (¬ nI (w (75 + i)) ≤ nI 0 → _)
        rw [nI_leI (by omega) (by omega)]
        refine ⟨fun q => ?_, fun q => ⟨⟨nI_pos' (by omega), by omega⟩, ?_⟩⟩
        · rw [if_neg (by rw [decide_eq_false (by omega)]; decide)] at ih
          exact ih
        · rw [if_pos (decide_eq_true (by omega))] at ih
          exact ih
      | some m =>
        rw [amA_m ho] at ih
        have fm := fl m (by have := amA_lt ho; omega)
        show (nI (w (75 + i)) ≤ nI (w (75 + m)) → _) ∧ (¬ nI (w (75 + i)) ≤ nI (w (75 + m)) → _)
        rw [nI_leI (by omega) (by omega)]
        refine ⟨fun q => ?_, fun q => ⟨⟨nI_pos' (by omega), by omega⟩, ?_⟩⟩
        · rw [if_neg (fun z => by have := z.2; omega)] at ih
          exact ih
        · rw [if_pos ⟨decide_eq_true (by omega), by omega⟩] at ih
          exact ih
  · intro I1 L1 h1 K g
    have hR := h1.2.1
    refine w_X11_ferny_0 (by omega) ?_
    have fj := FM.th I1 0
    have t0 := thr0 (I := I1) (v := 0)
    have hR1 : RM w (dd_u I1 148 (upd (I1 148) 0 0)) := hR.of (dd_un (by decide))
    generalize dd_u I1 148 (upd (I1 148) 0 0) = J at *
    refine dd_lp (fun i => dd_Rn d m_X11_ferny (11, [.ref 148, .int (oI (amA (fun b => w (75 + b)) (fun b => decide (0 < w (75 + b))) i)), .int (mst0 (fun b => w (75 + b)) (amA (fun b => w (75 + b)) (fun b => decide (0 < w (75 + b))) i)), .int (nI i)], [], sM Ln J L1 c s) (dd_RI Ln c s K)) 64 ?_ ?_
    · refine w_X11_ferny_11 (by omega) ?_
      rw [li_64, nI_leI (by omega) (by omega)]
      exact ⟨fun _ => mqJ hR1 fj t0 rfl g, fun q => absurd (Nat.le_refl _) q⟩
    · intro i hi ih
      have fi := fl i (by omega)
      refine w_X11_ferny_11 (by omega) ?_
      have ei : tn ((75 : Int32) + nI i) = 75 + i := by rw [li_75, nI_add]; exact nI_clamp (by omega)
      have e0 : 0 ≤ (75 : Int32) + nI i := by rw [li_75, nI_add]; exact nI_pos' (by omega)
      rw [ei, hR1.g (by omega), li_64, nI_leI (by omega) (by omega)]
      simp only [nI_1]
      refine ⟨fun q => absurd q (by omega), fun _ => ⟨⟨e0, by omega⟩, ?_⟩⟩
      cases ho : amA (fun b => w (75 + b)) (fun b => decide (0 < w (75 + b))) i with
      | none =>
        rw [amA_n ho] at ih
        show (nI (w (75 + i)) ≤ nI 0 → _) ∧ (¬ nI (w (75 + i)) ≤ nI 0 → _)
        refine ⟨fun q => ⟨⟨e0, by omega⟩, ?_⟩, fun q => ⟨⟨e0, by omega⟩, ?_⟩⟩
        · rw [nI_leI (by omega) (by omega)] at q
          rw [if_neg (by rw [decide_eq_false (by omega)]; decide)] at ih
          show dd_Rn d m_X11_ferny (11, [.ref 148, .int (oI none), .int (if nI 0 < nI (w (75 + i)) then nI (w (75 + i)) else nI 0), .int (nI (i + 1))], [], sM Ln J L1 c s) (dd_RI Ln c s K)
          rw [if_neg (by rw [nI_ltI (by omega) (by omega)]; omega)]
          exact ih
        · rw [nI_leI (by omega) (by omega)] at q
          rw [if_pos (decide_eq_true (by omega))] at ih
          show dd_Rn d m_X11_ferny (11, [.ref 148, .int (nI i), .int (if nI 0 < nI (w (75 + i)) then nI (w (75 + i)) else nI 0), .int (nI (i + 1))], [], sM Ln J L1 c s) (dd_RI Ln c s K)
          rw [if_pos (by rw [nI_ltI (by omega) (by omega)]; omega)]
          exact ih
      | some m =>
        rw [amA_m ho] at ih
        have fm := fl m (by have := amA_lt ho; omega)
        show (nI (w (75 + i)) ≤ nI (w (75 + m)) → _) ∧ (¬ nI (w (75 + i)) ≤ nI (w (75 + m)) → _)
        refine ⟨fun q => ⟨⟨e0, by omega⟩, ?_⟩, fun q => ⟨⟨e0, by omega⟩, ?_⟩⟩
        · rw [nI_leI (by omega) (by omega)] at q
          rw [if_neg (fun z => by have := z.2; omega)] at ih
          show dd_Rn d m_X11_ferny (11, [.ref 148, .int (oI (some m)), .int (if nI (w (75 + m)) < nI (w (75 + i)) then nI (w (75 + i)) else nI (w (75 + m))), .int (nI (i + 1))], [], sM Ln J L1 c s) (dd_RI Ln c s K)
          rw [if_neg (by rw [nI_ltI (by omega) (by omega)]; omega)]
          exact ih
        · rw [nI_leI (by omega) (by omega)] at q
          rw [if_pos ⟨decide_eq_true (by omega), by omega⟩] at ih
          show dd_Rn d m_X11_ferny (11, [.ref 148, .int (nI i), .int (if nI (w (75 + m)) < nI (w (75 + i)) then nI (w (75 + i)) else nI (w (75 + m))), .int (nI (i + 1))], [], sM Ln J L1 c s) (dd_RI Ln c s K)
          rw [if_pos (by rw [nI_ltI (by omega) (by omega)]; omega)]
          exact ih
