/-! Questions: twins -/
def twE (w : Nat → Nat) (i j : Nat) : Nat := if w (187 + 5 * i + 1) = w (187 + 5 * j + 1) ∧ w (187 + 5 * i + 2) = w (187 + 5 * j + 2) then 1 else 0
theorem twE_c (w : Nat → Nat) (i j : Nat) : twE w i j = twE w j i := by
  unfold twE
  by_cases q : w (187 + 5 * i + 1) = w (187 + 5 * j + 1) ∧ w (187 + 5 * i + 2) = w (187 + 5 * j + 2)
  · rw [if_pos q, if_pos ⟨q.1.symm, q.2.symm⟩]
  · rw [if_neg q, if_neg (fun z => q ⟨z.1.symm, z.2.symm⟩)]
def tw1 (w : Nat → Nat) (i x : Nat) : Nat → Nat := lpf (fun k y => y + twE w i (i + 1 + k)) x
def tw2 (w : Nat → Nat) (i x : Nat) : Nat → Nat := lpf (fun k y => y + twE w i k) x
def twA (w : Nat → Nat) (n : Nat) : Nat → Nat := lpf (fun i x => tw1 w i x (n - (i + 1))) 0
def twB (w : Nat → Nat) : Nat → Nat := lpf (fun i x => tw2 w i x i) 0
theorem tw_eq (w : Nat → Nat) {n : Nat} (hn : n ≤ 6) : twA w n n = twB w n := by
  have e : n = 0 ∨ n = 1 ∨ n = 2 ∨ n = 3 ∨ n = 4 ∨ n = 5 ∨ n = 6 := by omega
  have h10 := twE_c w 1 0
  have h20 := twE_c w 2 0
  have h21 := twE_c w 2 1
  have h30 := twE_c w 3 0
  have h31 := twE_c w 3 1
  have h32 := twE_c w 3 2
  have h40 := twE_c w 4 0
  have h41 := twE_c w 4 1
  have h42 := twE_c w 4 2
  have h43 := twE_c w 4 3
  have h50 := twE_c w 5 0
  have h51 := twE_c w 5 1
  have h52 := twE_c w 5 2
  have h53 := twE_c w 5 3
  have h54 := twE_c w 5 4
  rcases e with rfl | rfl | rfl | rfl | rfl | rfl | rfl
  all_goals
    simp only [twA, twB, tw1, tw2, lpf, Nat.reduceAdd, Nat.reduceSub, Nat.zero_add, Nat.add_zero]
    try omega
theorem A_twins {d Ln c s : Nat} {I0 I : Nat → Nat → Int32} {L : Nat → Nat → Int64} {w : Nat → Nat} {im : Option (Nat → Nat)} {na od : Nat} {A : Nat → Nat → Nat} {tp : Nat → Nat} {tl : Nat} {fa : Option Nat} (hd : 60 ≤ d) (h : INV I0 w im na od A tp tl fa I L) : PIw d m_X10_twins [.ref 0] m_X11_twins [.ref 148] I0 Ln c s I L := by
  have hO := h.1.1
  have w1 := hO.1.2.1
  have hC := h.2.2.1
  refine PIw.q h (nI (twB w (w 1))) ?_ ?_
  · intro K g
    rw [← tw_eq w w1] at g
    refine w_X10_twins_0 (by omega) ?_
    have key : ∀ a3 : Value, dd_Rn d m_X10_twins (4, [.ref 0, .int (nI (twA w (w 1) 0)), .int (nI 0), a3], [], sM Ln I L c s) (dd_RI Ln c s K) := by
      refine dd_lp (fun i => ∀ a3 : Value, dd_Rn d m_X10_twins (4, [.ref 0, .int (nI (twA w (w 1) i)), .int (nI i), a3], [], sM Ln I L c s) (dd_RI Ln c s K)) (w 1) ?_ ?_
      · intro a3
        refine w_X10_twins_4 (by omega) ?_
        rw [hC.boys, nI_leI (by omega) (by omega)]
        exact ⟨fun _ => dd_qi (g I L (FC.refl I L)), fun z => absurd (Nat.le_refl _) z⟩
      · intro i hi ih a3
        have e : twA w (w 1) (i + 1) = tw1 w i (twA w (w 1) i) (w 1 - (i + 1)) := rfl
        rw [e] at ih
        refine w_X10_twins_4 (by omega) ?_
        rw [hC.boys, nI_leI (by omega) (by omega), nI_1]
        refine ⟨fun z => absurd z (by omega), fun _ => ?_⟩
        generalize twA w (w 1) i = x at *
        refine dd_lp (fun k => dd_Rn d m_X10_twins (19, [.ref 0, .int (nI (tw1 w i x k)), .int (nI i), .int (nI (i + 1 + k))], [], sM Ln I L c s) (dd_RI Ln c s K)) (w 1 - (i + 1)) ?_ ?_
        · refine w_X10_twins_19 (by omega) ?_
          rw [hC.boys, nI_leI (by omega) (by omega), nI_1]
          exact ⟨fun _ => ih _, fun z => absurd (by omega) z⟩
        · intro k hk ih2
          have e2 : tw1 w i x (k + 1) = tw1 w i x k + twE w i (i + 1 + k) := rfl
          rw [e2] at ih2
          unfold twE at ih2
          obtain ⟨_, _, p2, p3, _, _⟩ := hO.2.2.2.1 i (by omega)
          obtain ⟨_, _, r2, r3, _, _⟩ := hO.2.2.2.1 (i + 1 + k) (by omega)
          refine w_X10_twins_19 (by omega) ?_
          simp (disch := omega) only [nI_add, pk_mul, tn, nI_clamp, nI_eq, nI_leI, nI_ltI, pk_sub, pk_div, pk_rem, nI_nm, nI_nm2, nI_nle1, nI_nlt1, nI_le1, nI_lt1, li_0, li_1, li_2, li_3, li_4, li_5, li_6, li_7, li_8, li_9, li_10, li_11, li_12, li_13, li_14, li_15, li_16, li_17, li_18, li_19, li_20, li_21, li_22, li_23, li_24, li_25, li_26, li_27, li_28, li_29, li_30, li_31, li_32, li_33, li_34, li_35, li_36, li_37, li_38, li_39, li_40, li_41, li_42, li_43, li_44, li_45, li_46, li_47, li_48, li_49, li_50, li_51, li_52, li_53, li_54, li_55, li_56, li_57, li_58, li_59, li_60, li_61, li_62, li_63, li_64, li_65, li_66, li_67, li_68, li_69, li_75, li_97, li_99, li_100, li_101, li_102, li_120, li_122, li_127, li_139, li_187, li_222, li_223, li_224, li_225, li_226, li_255, li_256, li_299, li_400, li_465, li_522, li_523, li_571, li_849, li_999, li_1000, li_1100, li_1371, li_1372, li_1420, li_1984, li_2220, li_5742, li_6264, li_9999, li_10000, li_12345, li_32767, li_65536, li_1000000, li_252645135, li_858993459, li_1103515245, li_1431655765, dd_us, dd_un, dd_u_u, pk_us, pk_un, Bool.true_eq_false, Bool.false_eq_true, true_and, and_true, true_implies, false_implies, implies_true, not_true_eq_false, not_false_eq_true, ne_eq, forall_const, sdm, Nat.add_zero, Nat.zero_add, sb_m1n, nmn1, nmn2, nmn3, nmn4, nmn5, nmn6, bI_0n, bI_1n, ck_and, im_t, im_f, if_pos, if_neg, hC.boys, hC.sung, hC.ear]
          refine ⟨fun q => ⟨fun q2 => ?_, fun q2 => ?_⟩, fun q => ?_⟩
          · rw [if_pos ⟨q, q2⟩] at ih2
            exact ih2
          · rw [if_neg (fun z => q2 z.2)] at ih2
            exact ih2
          · rw [if_neg (fun z => q z.1)] at ih2
            exact ih2
    exact key .null
  · intro I1 L1 h1 K g
    have hR := h1.2.1
    refine w_X11_twins_0 (by omega) ?_
    have fj := FM.th I1 0
    have t0 := thr0 (I := I1) (v := 0)
    have hR1 : RM w (dd_u I1 148 (upd (I1 148) 0 0)) := hR.of (dd_un (by decide))
    generalize dd_u I1 148 (upd (I1 148) 0 0) = J at *
    have key : ∀ a3 : Value, dd_Rn d m_X11_twins (9, [.ref 148, .int (nI (twB w 0)), .int (nI 0), a3], [], sM Ln J L1 c s) (dd_RI Ln c s K) := by
      refine dd_lp (fun i => ∀ a3 : Value, dd_Rn d m_X11_twins (9, [.ref 148, .int (nI (twB w i)), .int (nI i), a3], [], sM Ln J L1 c s) (dd_RI Ln c s K)) (w 1) ?_ ?_
      · intro a3
        refine w_X11_twins_9 (by omega) ?_
        rw [hR1.g (by omega), nI_leI (by omega) (by omega)]
        exact ⟨fun _ => mqJ hR1 fj t0 rfl g, fun z => absurd (Nat.le_refl _) z⟩
      · intro i hi ih a3
        have e : twB w (i + 1) = tw2 w i (twB w i) i := rfl
        rw [e] at ih
        refine w_X11_twins_9 (by omega) ?_
        rw [hR1.g (by omega), nI_leI (by omega) (by omega)]
        refine ⟨fun z => absurd z (by omega), fun _ => ?_⟩
        generalize twB w i = x at *
        refine dd_lp (fun k => dd_Rn d m_X11_twins (19, [.ref 148, .int (nI (tw2 w i x k)), .int (nI i), .int (nI k)], [], sM Ln J L1 c s) (dd_RI Ln c s K)) i ?_ ?_
        · refine w_X11_twins_19 (by omega) ?_
          rw [nI_leI (by omega) (by omega), nI_1]
          exact ⟨fun _ => ih _, fun z => absurd (Nat.le_refl _) z⟩
        · intro k hk ih2
          have e2 : tw2 w i x (k + 1) = tw2 w i x k + twE w i k := rfl
          rw [e2] at ih2
          unfold twE at ih2
          obtain ⟨_, _, p2, p3, _, _⟩ := hO.2.2.2.1 i (by omega)
          obtain ⟨_, _, r2, r3, _, _⟩ := hO.2.2.2.1 k (by omega)
          refine w_X11_twins_19 (by omega) ?_
          simp (disch := omega) only [nI_add, pk_mul, tn, nI_clamp, nI_eq, nI_leI, nI_ltI, pk_sub, pk_div, pk_rem, nI_nm, nI_nm2, nI_nle1, nI_nlt1, nI_le1, nI_lt1, li_0, li_1, li_2, li_3, li_4, li_5, li_6, li_7, li_8, li_9, li_10, li_11, li_12, li_13, li_14, li_15, li_16, li_17, li_18, li_19, li_20, li_21, li_22, li_23, li_24, li_25, li_26, li_27, li_28, li_29, li_30, li_31, li_32, li_33, li_34, li_35, li_36, li_37, li_38, li_39, li_40, li_41, li_42, li_43, li_44, li_45, li_46, li_47, li_48, li_49, li_50, li_51, li_52, li_53, li_54, li_55, li_56, li_57, li_58, li_59, li_60, li_61, li_62, li_63, li_64, li_65, li_66, li_67, li_68, li_69, li_75, li_97, li_99, li_100, li_101, li_102, li_120, li_122, li_127, li_139, li_187, li_222, li_223, li_224, li_225, li_226, li_255, li_256, li_299, li_400, li_465, li_522, li_523, li_571, li_849, li_999, li_1000, li_1100, li_1371, li_1372, li_1420, li_1984, li_2220, li_5742, li_6264, li_9999, li_10000, li_12345, li_32767, li_65536, li_1000000, li_252645135, li_858993459, li_1103515245, li_1431655765, dd_us, dd_un, dd_u_u, pk_us, pk_un, Bool.true_eq_false, Bool.false_eq_true, true_and, and_true, true_implies, false_implies, implies_true, not_true_eq_false, not_false_eq_true, ne_eq, forall_const, sdm, Nat.add_zero, Nat.zero_add, sb_m1n, nmn1, nmn2, nmn3, nmn4, nmn5, nmn6, bI_0n, bI_1n, ck_and, im_t, im_f, if_pos, if_neg, hR1.g]
          refine ⟨fun q => ⟨fun q2 => ?_, fun q2 => ?_⟩, fun q => ?_⟩
          · rw [if_pos ⟨q, q2⟩] at ih2
            exact ih2
          · rw [if_neg (fun z => q2 z.2)] at ih2
            exact ih2
          · rw [if_neg (fun z => q z.1)] at ih2
            exact ih2
    exact key .null
