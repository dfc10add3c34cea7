/-! The model's first steps -/
theorem M_gapOf {d Ln c s : Nat} {I : Nat → Nat → Int32} {L : Nat → Nat → Int64} {K : Int32 → (Nat → Nat → Int32) → (Nat → Nat → Int64) → Prop} {a b : Nat} (hd : 28 ≤ d) (ha : a < 64) (hb : b < 64) (k : K (nI (gap a b)) I L) : dd_Ev d m_X11_gapOf [.int (nI a), .int (nI b)] (sM Ln I L c s) (dd_RI Ln c s K) := by
  refine w_X11_gapOf_0 hd ?_
  simp (disch := omega) only [li_8, pk_div, pk_mul, pk_sub, sdm]
  rw [abs_nI (by omega) (by omega), abs_nI (by omega) (by omega), nI_add]
  exact dd_qi k
theorem M_nearOf {d Ln c s : Nat} {I : Nat → Nat → Int32} {L : Nat → Nat → Int64} {K : Int32 → (Nat → Nat → Int32) → (Nat → Nat → Int64) → Prop} {w : Nat → Nat} {a : Nat} (hd : 29 ≤ d) (hR : RM w I) (ha : a < 64) (h4 : w 4 < 64) (k : K (nI (gap a (w 4))) I L) : dd_Ev d m_X11_nearOf [.ref 148, .int (nI a)] (sM Ln I L c s) (dd_RI Ln c s K) := by
  refine w_X11_nearOf_0 (by omega) ?_
  rw [hR.g (by omega)]
  refine M_gapOf (by omega) ha h4 ?_
  exact dd_qi k
theorem M_stA {d Ln c s : Nat} {I : Nat → Nat → Int32} {L : Nat → Nat → Int64} {K : Int32 → (Nat → Nat → Int32) → (Nat → Nat → Int64) → Prop} {w : Nat → Nat} {c0 x y : Nat} {a2 b0 b1 : Int32} (hd : 28 ≤ d) (hR : RM w I) (hx : x < 8) (hy : y < 8) (e : b0 + b1 = nI y) (hb : w (11 + (8 * y + x)) ≤ 1) (k : K (nI (if w (11 + (8 * y + x)) = 1 then c0 else 8 * y + x)) I L) : dd_Rn d m_X11_stepTo (48, [.ref 148, .int (nI c0), .int a2, .int (nI x), .null], [.int b1, .int b0], sM Ln I L c s) (dd_RI Ln c s K) := by
  refine w_X11_stepTo_48 hd ?_
  rw [e]
  simp (disch := omega) only [nI_add, pk_mul, tn, nI_clamp, nI_eq, nI_leI, nI_ltI, pk_sub, pk_div, pk_rem, nI_nm, nI_nm2, nI_nle1, nI_nlt1, nI_le1, nI_lt1, li_0, li_1, li_2, li_3, li_4, li_5, li_6, li_7, li_8, li_9, li_10, li_11, li_12, li_13, li_14, li_15, li_16, li_17, li_18, li_19, li_20, li_21, li_22, li_23, li_24, li_25, li_26, li_27, li_28, li_29, li_30, li_31, li_32, li_33, li_34, li_35, li_36, li_37, li_38, li_39, li_40, li_41, li_42, li_43, li_44, li_45, li_46, li_47, li_48, li_49, li_50, li_51, li_52, li_53, li_54, li_55, li_56, li_57, li_58, li_59, li_60, li_61, li_62, li_63, li_64, li_65, li_66, li_67, li_68, li_69, li_75, li_97, li_99, li_100, li_101, li_102, li_120, li_122, li_127, li_139, li_187, li_222, li_223, li_224, li_225, li_226, li_255, li_256, li_299, li_400, li_465, li_522, li_523, li_571, li_849, li_999, li_1000, li_1100, li_1371, li_1372, li_1420, li_1984, li_2220, li_5742, li_6264, li_9999, li_10000, li_12345, li_32767, li_65536, li_1000000, li_252645135, li_858993459, li_1103515245, li_1431655765, dd_us, dd_un, dd_u_u, pk_us, pk_un, true_and, and_true, true_implies, false_implies, implies_true, not_true_eq_false, not_false_eq_true, ne_eq, forall_const, sdm, Nat.add_zero, Nat.zero_add, sb_m1n, nmn1, nmn2, nmn3, nmn4, nmn5, nmn6, bI_0n, bI_1n, ck_and, im_t, im_f, if_pos, if_neg, hR.g]
  refine ⟨fun q => ?_, fun q => ?_⟩
  · refine w_X11_stepTo_86 hd (w_X11_stepTo_97 hd ?_)
    rw [if_pos q] at k
    exact dd_qi k
  · refine w_X11_stepTo_97 hd ?_
    rw [if_neg q] at k
    exact dd_qi k
theorem M_stB {d Ln c s : Nat} {I : Nat → Nat → Int32} {L : Nat → Nat → Int64} {K : Int32 → (Nat → Nat → Int32) → (Nat → Nat → Int64) → Prop} {c0 : Nat} {a2 a3 b0 b1 : Int32} (hd : 28 ≤ d) (h : a3 < 0 ∨ 7 < a3 ∨ b0 + b1 < 0 ∨ 7 < b0 + b1) (k : K (nI c0) I L) : dd_Rn d m_X11_stepTo (48, [.ref 148, .int (nI c0), .int a2, .int a3, .null], [.int b1, .int b0], sM Ln I L c s) (dd_RI Ln c s K) := by
  have e : dd_Rn d m_X11_stepTo (86, [.ref 148, .int (nI c0), .int a2, .int a3, .int (b0 + b1)], [], sM Ln I L c s) (dd_RI Ln c s K) := w_X11_stepTo_86 hd (w_X11_stepTo_97 hd (dd_qi k))
  refine w_X11_stepTo_48 hd ⟨fun _ => e, fun h1 => ⟨fun _ => e, fun h2 => ⟨fun _ => e, fun h3 => ⟨fun _ => e, fun h4 => ?_⟩⟩⟩⟩
  rcases h with h | h | h | h
  · exact absurd h h1
  · exact absurd h h2
  · exact absurd h h3
  · exact absurd h h4
theorem M_stepTo {d Ln c s : Nat} {I : Nat → Nat → Int32} {L : Nat → Nat → Int64} {K : Int32 → (Nat → Nat → Int32) → (Nat → Nat → Int64) → Prop} {w : Nat → Nat} {c0 side : Nat} (hd : 28 ≤ d) (hR : RM w I) (hT : okT w) (hc : c0 < 64) (h1 : 1 ≤ side) (h4 : side ≤ 4) (k : K (nI (stp w c0 side)) I L) : dd_Ev d m_X11_stepTo [.ref 148, .int (nI c0), .int (nI side)] (sM Ln I L c s) (dd_RI Ln c s K) := by
  refine w_X11_stepTo_0 hd ?_
  have hs : side = 1 ∨ side = 2 ∨ side = 3 ∨ side = 4 := by omega
  rcases hs with rfl | rfl | rfl | rfl
  · simp (disch := omega) only [nI_add, pk_mul, tn, nI_clamp, nI_eq, nI_leI, nI_ltI, pk_sub, pk_div, pk_rem, nI_nm, nI_nm2, nI_nle1, nI_nlt1, nI_le1, nI_lt1, li_0, li_1, li_2, li_3, li_4, li_5, li_6, li_7, li_8, li_9, li_10, li_11, li_12, li_13, li_14, li_15, li_16, li_17, li_18, li_19, li_20, li_21, li_22, li_23, li_24, li_25, li_26, li_27, li_28, li_29, li_30, li_31, li_32, li_33, li_34, li_35, li_36, li_37, li_38, li_39, li_40, li_41, li_42, li_43, li_44, li_45, li_46, li_47, li_48, li_49, li_50, li_51, li_52, li_53, li_54, li_55, li_56, li_57, li_58, li_59, li_60, li_61, li_62, li_63, li_64, li_65, li_66, li_67, li_68, li_69, li_75, li_97, li_99, li_100, li_101, li_102, li_120, li_122, li_127, li_139, li_187, li_222, li_223, li_224, li_225, li_226, li_255, li_256, li_299, li_400, li_465, li_522, li_523, li_571, li_849, li_999, li_1000, li_1100, li_1371, li_1372, li_1420, li_1984, li_2220, li_5742, li_6264, li_9999, li_10000, li_12345, li_32767, li_65536, li_1000000, li_252645135, li_858993459, li_1103515245, li_1431655765, dd_us, dd_un, dd_u_u, pk_us, pk_un, true_and, and_true, true_implies, false_implies, implies_true, not_true_eq_false, not_false_eq_true, ne_eq, forall_const, sdm, Nat.add_zero, Nat.zero_add, sb_m1n, nmn1, nmn2, nmn3, nmn4, nmn5, nmn6, bI_0n, bI_1n, ck_and, im_t, im_f, if_pos, if_neg]
    by_cases q : 8 ≤ c0
    · have e : 8 * (c0 / 8 - 1) + c0 % 8 = c0 - 8 := by omega
      refine M_stA (w := w) (y := c0 / 8 - 1) hd hR (by omega) (by omega) (sb_m1 (by omega)) ?_ ?_
      · rw [e]; exact (hT _ (by omega)).1
      · rw [e, ← stp1 q]; exact k
    · refine M_stB hd (Or.inr (Or.inr (Or.inl ?_))) ?_
      · rw [show c0 / 8 = 0 by omega]; decide
      · rw [stp1o q] at k; exact k
  · simp (disch := omega) only [nI_add, pk_mul, tn, nI_clamp, nI_eq, nI_leI, nI_ltI, pk_sub, pk_div, pk_rem, nI_nm, nI_nm2, nI_nle1, nI_nlt1, nI_le1, nI_lt1, li_0, li_1, li_2, li_3, li_4, li_5, li_6, li_7, li_8, li_9, li_10, li_11, li_12, li_13, li_14, li_15, li_16, li_17, li_18, li_19, li_20, li_21, li_22, li_23, li_24, li_25, li_26, li_27, li_28, li_29, li_30, li_31, li_32, li_33, li_34, li_35, li_36, li_37, li_38, li_39, li_40, li_41, li_42, li_43, li_44, li_45, li_46, li_47, li_48, li_49, li_50, li_51, li_52, li_53, li_54, li_55, li_56, li_57, li_58, li_59, li_60, li_61, li_62, li_63, li_64, li_65, li_66, li_67, li_68, li_69, li_75, li_97, li_99, li_100, li_101, li_102, li_120, li_122, li_127, li_139, li_187, li_222, li_223, li_224, li_225, li_226, li_255, li_256, li_299, li_400, li_465, li_522, li_523, li_571, li_849, li_999, li_1000, li_1100, li_1371, li_1372, li_1420, li_1984, li_2220, li_5742, li_6264, li_9999, li_10000, li_12345, li_32767, li_65536, li_1000000, li_252645135, li_858993459, li_1103515245, li_1431655765, dd_us, dd_un, dd_u_u, pk_us, pk_un, true_and, and_true, true_implies, false_implies, implies_true, not_true_eq_false, not_false_eq_true, ne_eq, forall_const, sdm, Nat.add_zero, Nat.zero_add, sb_m1n, nmn1, nmn2, nmn3, nmn4, nmn5, nmn6, bI_0n, bI_1n, ck_and, im_t, im_f, if_pos, if_neg]
    by_cases q : c0 % 8 < 7
    · have e : 8 * (c0 / 8) + (c0 % 8 + 1) = c0 + 1 := by omega
      refine M_stA (w := w) (y := c0 / 8) hd hR (by omega) (by omega) (nI_add _ 0) ?_ ?_
      · rw [e]; exact (hT _ (by omega)).1
      · rw [e, ← stp2 q]; exact k
    · refine M_stB hd (Or.inr (Or.inl ?_)) ?_
      · rw [show c0 % 8 = 7 by omega]; decide
      · rw [stp2o q] at k; exact k
  · simp (disch := omega) only [nI_add, pk_mul, tn, nI_clamp, nI_eq, nI_leI, nI_ltI, pk_sub, pk_div, pk_rem, nI_nm, nI_nm2, nI_nle1, nI_nlt1, nI_le1, nI_lt1, li_0, li_1, li_2, li_3, li_4, li_5, li_6, li_7, li_8, li_9, li_10, li_11, li_12, li_13, li_14, li_15, li_16, li_17, li_18, li_19, li_20, li_21, li_22, li_23, li_24, li_25, li_26, li_27, li_28, li_29, li_30, li_31, li_32, li_33, li_34, li_35, li_36, li_37, li_38, li_39, li_40, li_41, li_42, li_43, li_44, li_45, li_46, li_47, li_48, li_49, li_50, li_51, li_52, li_53, li_54, li_55, li_56, li_57, li_58, li_59, li_60, li_61, li_62, li_63, li_64, li_65, li_66, li_67, li_68, li_69, li_75, li_97, li_99, li_100, li_101, li_102, li_120, li_122, li_127, li_139, li_187, li_222, li_223, li_224, li_225, li_226, li_255, li_256, li_299, li_400, li_465, li_522, li_523, li_571, li_849, li_999, li_1000, li_1100, li_1371, li_1372, li_1420, li_1984, li_2220, li_5742, li_6264, li_9999, li_10000, li_12345, li_32767, li_65536, li_1000000, li_252645135, li_858993459, li_1103515245, li_1431655765, dd_us, dd_un, dd_u_u, pk_us, pk_un, true_and, and_true, true_implies, false_implies, implies_true, not_true_eq_false, not_false_eq_true, ne_eq, forall_const, sdm, Nat.add_zero, Nat.zero_add, sb_m1n, nmn1, nmn2, nmn3, nmn4, nmn5, nmn6, bI_0n, bI_1n, ck_and, im_t, im_f, if_pos, if_neg]
    by_cases q : c0 < 56
    · have e : 8 * (c0 / 8 + 1) + c0 % 8 = c0 + 8 := by omega
      refine M_stA (w := w) (y := c0 / 8 + 1) hd hR (by omega) (by omega) (nI_add _ 1) ?_ ?_
      · rw [e]; exact (hT _ (by omega)).1
      · rw [e, ← stp3 q]; exact k
    · refine M_stB hd (Or.inr (Or.inr (Or.inr ?_))) ?_
      · rw [show c0 / 8 = 7 by omega]; decide
      · rw [stp3o q] at k; exact k
  · simp (disch := omega) only [nI_add, pk_mul, tn, nI_clamp, nI_eq, nI_leI, nI_ltI, pk_sub, pk_div, pk_rem, nI_nm, nI_nm2, nI_nle1, nI_nlt1, nI_le1, nI_lt1, li_0, li_1, li_2, li_3, li_4, li_5, li_6, li_7, li_8, li_9, li_10, li_11, li_12, li_13, li_14, li_15, li_16, li_17, li_18, li_19, li_20, li_21, li_22, li_23, li_24, li_25, li_26, li_27, li_28, li_29, li_30, li_31, li_32, li_33, li_34, li_35, li_36, li_37, li_38, li_39, li_40, li_41, li_42, li_43, li_44, li_45, li_46, li_47, li_48, li_49, li_50, li_51, li_52, li_53, li_54, li_55, li_56, li_57, li_58, li_59, li_60, li_61, li_62, li_63, li_64, li_65, li_66, li_67, li_68, li_69, li_75, li_97, li_99, li_100, li_101, li_102, li_120, li_122, li_127, li_139, li_187, li_222, li_223, li_224, li_225, li_226, li_255, li_256, li_299, li_400, li_465, li_522, li_523, li_571, li_849, li_999, li_1000, li_1100, li_1371, li_1372, li_1420, li_1984, li_2220, li_5742, li_6264, li_9999, li_10000, li_12345, li_32767, li_65536, li_1000000, li_252645135, li_858993459, li_1103515245, li_1431655765, dd_us, dd_un, dd_u_u, pk_us, pk_un, true_and, and_true, true_implies, false_implies, implies_true, not_true_eq_false, not_false_eq_true, ne_eq, forall_const, sdm, Nat.add_zero, Nat.zero_add, sb_m1n, nmn1, nmn2, nmn3, nmn4, nmn5, nmn6, bI_0n, bI_1n, ck_and, im_t, im_f, if_pos, if_neg]
    by_cases q : 0 < c0 % 8
    · have e : 8 * (c0 / 8) + (c0 % 8 - 1) = c0 - 1 := by omega
      rw [sb_m1n q]
      refine M_stA (w := w) (y := c0 / 8) hd hR (by omega) (by omega) (nI_add _ 0) ?_ ?_
      · rw [e]; exact (hT _ (by omega)).1
      · rw [e, ← stp4 q]; exact k
    · refine M_stB hd (Or.inl ?_) ?_
      · rw [show c0 % 8 = 0 by omega]; decide
      · rw [stp4o q] at k; exact k
theorem M_sn76 {d Ln c s : Nat} {I : Nat → Nat → Int32} {L : Nat → Nat → Int64} {K : Int32 → (Nat → Nat → Int32) → (Nat → Nat → Int64) → Prop} {w : Nat → Nat} {c0 ax ay : Nat} (hd : 28 ≤ d) (h4 : w 4 < 64) (hc : c0 < 64) (hx : ax = nrx w c0) (hy : ay = nry w c0) (k : K (nI (nrr w c0)) I L) : dd_Rn d m_X11_stepNearer (76, [.ref 148, .int (nI c0), .int (nI (w 4 % 8) - nI (c0 % 8)), .int (nI (w 4 / 8) - nI (c0 / 8)), .int (nI ax), .null, .null], [.int (nI ay)], sM Ln I L c s) (dd_RI Ln c s K) := by
  have bx : ax < 64 := hx ▸ nrx_lt hc
  have bY : ay < 64 := hy ▸ nry_lt hc
  unfold nrr at k
  rw [← hx, ← hy] at k
  refine w_X11_stepNearer_76 hd ?_
  rw [abs_nI (by omega) (by omega), abs_nI (by omega) (by omega)]
  have b1 : adf (w 4 / 8) (c0 / 8) < 64 := by unfold adf; omega
  have b2 : adf (w 4 % 8) (c0 % 8) < 64 := by unfold adf; omega
  simp (disch := omega) only [li_0, dz, nI_ltI]
  have e : ∀ {Q : Prop}, (w 4 % 8 = c0 % 8 ∨ adf (w 4 % 8) (c0 % 8) < adf (w 4 / 8) (c0 / 8)) → (dd_Rn d m_X11_stepNearer (97, [.ref 148, .int (nI c0), .int (nI (w 4 % 8) - nI (c0 % 8)), .int (nI (w 4 / 8) - nI (c0 / 8)), .int (nI ax), .int (nI ay), .null], [], sM Ln I L c s) (dd_RI Ln c s K)) := by
    intro _ q
    rw [if_neg (by omega)] at k
    refine w_X11_stepNearer_97 hd (w_X11_stepNearer_98 hd ⟨fun _ => ⟨fun q2 => ?_, fun q2 => ?_⟩, fun q2 => absurd rfl q2⟩)
    · rw [if_pos ((nI_eq (by omega) (by omega)).mp q2)] at k
      exact w_X11_stepNearer_132 hd (dd_qi k)
    · rw [if_neg (fun q3 => q2 (congrArg nI q3))] at k
      exact w_X11_stepNearer_132 hd (dd_qi k)
  refine ⟨fun q => e (Q := True) (Or.inl q), fun q => ⟨fun q2 => e (Q := True) (Or.inr q2), fun q2 => ?_⟩⟩
  rw [if_pos ⟨q, by omega⟩] at k
  refine w_X11_stepNearer_98 hd ⟨fun q2 => absurd q2 (by decide), fun _ => ⟨fun q2 => ?_, fun q2 => ?_⟩⟩
  · rw [if_pos ((nI_eq (by omega) (by omega)).mp q2)] at k
    exact w_X11_stepNearer_118 hd (dd_qi k)
  · rw [if_neg (fun q3 => q2 (congrArg nI q3))] at k
    exact w_X11_stepNearer_118 hd (dd_qi k)
theorem M_stepNearer {d Ln c s : Nat} {I : Nat → Nat → Int32} {L : Nat → Nat → Int64} {K : Int32 → (Nat → Nat → Int32) → (Nat → Nat → Int64) → Prop} {w : Nat → Nat} {c0 : Nat} (hd : 29 ≤ d) (hR : RM w I) (hT : okT w) (h4 : w 4 < 64) (hc : c0 < 64) (k : K (nI (nrr w c0)) I L) : dd_Ev d m_X11_stepNearer [.ref 148, .int (nI c0)] (sM Ln I L c s) (dd_RI Ln c s K) := by
  refine w_X11_stepNearer_0 (by omega) ?_
  simp (disch := omega) only [hR.g, li_8, pk_div, pk_mul, pk_sub, sdm, li_0, dz, dle, li_1, li_2, li_3, li_4]
  have hd' : 28 ≤ d := by omega
  refine ⟨fun q1 => ⟨fun q2 => ?_, fun q2 => ⟨fun q3 => ?_, fun q3 => ?_⟩⟩, fun q1 => ⟨fun q4 => ?_, fun q4 => ?_⟩⟩
  · exact M_sn76 hd' h4 hc (by rw [nrx, if_pos q1]) (by rw [nry, if_pos q2]) k
  · refine M_stepTo (by omega) hR hT hc (by omega) (by omega) ?_
    exact M_sn76 hd' h4 hc (by rw [nrx, if_pos q1]) (by rw [nry, if_neg q2, if_neg (by omega)]) k
  · refine M_stepTo (by omega) hR hT hc (by omega) (by omega) ?_
    exact M_sn76 hd' h4 hc (by rw [nrx, if_pos q1]) (by rw [nry, if_neg q2, if_pos (by omega)]) k
  · refine M_stepTo (by omega) hR hT hc (by omega) (by omega) ?_
    have ex : stp w c0 4 = nrx w c0 := by rw [nrx, if_neg q1, if_neg (by omega)]
    refine ⟨fun q2 => ?_, fun q2 => ⟨fun q3 => ?_, fun q3 => ?_⟩⟩
    · exact M_sn76 hd' h4 hc ex (by rw [nry, if_pos q2]) k
    · refine M_stepTo (by omega) hR hT hc (by omega) (by omega) ?_
      exact M_sn76 hd' h4 hc ex (by rw [nry, if_neg q2, if_neg (by omega)]) k
    · refine M_stepTo (by omega) hR hT hc (by omega) (by omega) ?_
      exact M_sn76 hd' h4 hc ex (by rw [nry, if_neg q2, if_pos (by omega)]) k
  · refine M_stepTo (by omega) hR hT hc (by omega) (by omega) ?_
    have ex : stp w c0 2 = nrx w c0 := by rw [nrx, if_neg q1, if_pos (by omega)]
    refine ⟨fun q2 => ?_, fun q2 => ⟨fun q3 => ?_, fun q3 => ?_⟩⟩
    · exact M_sn76 hd' h4 hc ex (by rw [nry, if_pos q2]) k
    · refine M_stepTo (by omega) hR hT hc (by omega) (by omega) ?_
      exact M_sn76 hd' h4 hc ex (by rw [nry, if_neg q2, if_neg (by omega)]) k
    · refine M_stepTo (by omega) hR hT hc (by omega) (by omega) ?_
      exact M_sn76 hd' h4 hc ex (by rw [nry, if_neg q2, if_pos (by omega)]) k
theorem M_comesBy {d Ln c s : Nat} {I : Nat → Nat → Int32} {L : Nat → Nat → Int64} {K : Int32 → (Nat → Nat → Int32) → (Nat → Nat → Int64) → Prop} {w : Nat → Nat} {c0 note : Nat} (hd : 30 ≤ d) (hR : RM w I) (hT : okT w) (h4 : w 4 < 64) (hc : c0 < 64) (hn : note ≤ 9) (k : K (nI (cby w c0 note)) I L) : dd_Ev d m_X11_comesBy [.ref 148, .int (nI c0), .int (nI note)] (sM Ln I L c s) (dd_RI Ln c s K) := by
  refine w_X11_comesBy_0 (by omega) ?_
  simp (disch := omega) only [li_0, li_4, nI_eq, nI_ltI]
  unfold cby at k
  refine ⟨fun q => ?_, fun q => ⟨fun q2 => ?_, fun q2 => ?_⟩⟩
  · rw [if_pos q] at k
    refine M_stepNearer (by omega) hR hT h4 hc ?_
    exact dd_qi k
  · rw [if_neg q, if_neg (by omega)] at k
    exact dd_qi k
  · rw [if_neg q, if_pos (by omega)] at k
    refine M_stepTo (by omega) hR hT hc (by omega) (by omega) ?_
    exact dd_qi k
theorem M_isThere {d Ln c s : Nat} {I : Nat → Nat → Int32} {L : Nat → Nat → Int64} {K : (Nat → Nat → Int32) → (Nat → Nat → Int64) → Prop} {w : Nat → Nat} {b c0 : Nat} (hd : 28 ≤ d) (hR : RM w I) (hb : b ≤ 6) (hc : c0 < 64) (h4 : w 4 < 64) (k : ∀ I', RM (ist w b c0) I' → FW I I' → K I' L) : dd_Ev d m_X11_isThere [.ref 148, .int (nI b), .int (nI c0)] (sM Ln I L c s) (dd_RV Ln c s K) := by
  refine w_X11_isThere_0 hd ?_
  simp (disch := omega) only [nI_add, pk_mul, tn, nI_clamp, nI_eq, nI_leI, nI_ltI, pk_sub, pk_div, pk_rem, nI_nm, nI_nm2, nI_nle1, nI_nlt1, nI_le1, nI_lt1, li_0, li_1, li_2, li_3, li_4, li_5, li_6, li_7, li_8, li_9, li_10, li_11, li_12, li_13, li_14, li_15, li_16, li_17, li_18, li_19, li_20, li_21, li_22, li_23, li_24, li_25, li_26, li_27, li_28, li_29, li_30, li_31, li_32, li_33, li_34, li_35, li_36, li_37, li_38, li_39, li_40, li_41, li_42, li_43, li_44, li_45, li_46, li_47, li_48, li_49, li_50, li_51, li_52, li_53, li_54, li_55, li_56, li_57, li_58, li_59, li_60, li_61, li_62, li_63, li_64, li_65, li_66, li_67, li_68, li_69, li_75, li_97, li_99, li_100, li_101, li_102, li_120, li_122, li_127, li_139, li_187, li_222, li_223, li_224, li_225, li_226, li_255, li_256, li_299, li_400, li_465, li_522, li_523, li_571, li_849, li_999, li_1000, li_1100, li_1371, li_1372, li_1420, li_1984, li_2220, li_5742, li_6264, li_9999, li_10000, li_12345, li_32767, li_65536, li_1000000, li_252645135, li_858993459, li_1103515245, li_1431655765, dd_us, dd_un, dd_u_u, pk_us, pk_un, true_and, and_true, true_implies, false_implies, implies_true, not_true_eq_false, not_false_eq_true, ne_eq, forall_const, sdm, Nat.add_zero, Nat.zero_add, sb_m1n, nmn1, nmn2, nmn3, nmn4, nmn5, nmn6, bI_0n, bI_1n, ck_and, im_t, im_f, if_pos, if_neg, hR.g]
  unfold ist at k
  refine ⟨fun q => ?_, fun q => ?_⟩
  · rw [if_pos q] at k
    exact dd_qV (k _ (RM.set (nu (nu hR _ _) _ _)) ((FR.refl I).u (by decide) (by decide)))
  · rw [if_neg q] at k
    exact dd_qV (k _ (RM.set (nu hR _ _)) ((FR.refl I).u (by decide) (by decide)))
theorem M_beatEnds {d Ln c s : Nat} {I : Nat → Nat → Int32} {L : Nat → Nat → Int64} {K : (Nat → Nat → Int32) → (Nat → Nat → Int64) → Prop} {w : Nat → Nat} (hd : 28 ≤ d) (hR : RM w I) (h7 : w 7 < 8) (h8 : w 8 ≤ 9999) (k : ∀ I', RM (bend w) I' → FW I I' → K I' L) : dd_Ev d m_X11_beatEnds [.ref 148] (sM Ln I L c s) (dd_RV Ln c s K) := by
  refine w_X11_beatEnds_0 hd ?_
  simp (disch := omega) only [nI_add, pk_mul, tn, nI_clamp, nI_eq, nI_leI, nI_ltI, pk_sub, pk_div, pk_rem, nI_nm, nI_nm2, nI_nle1, nI_nlt1, nI_le1, nI_lt1, li_0, li_1, li_2, li_3, li_4, li_5, li_6, li_7, li_8, li_9, li_10, li_11, li_12, li_13, li_14, li_15, li_16, li_17, li_18, li_19, li_20, li_21, li_22, li_23, li_24, li_25, li_26, li_27, li_28, li_29, li_30, li_31, li_32, li_33, li_34, li_35, li_36, li_37, li_38, li_39, li_40, li_41, li_42, li_43, li_44, li_45, li_46, li_47, li_48, li_49, li_50, li_51, li_52, li_53, li_54, li_55, li_56, li_57, li_58, li_59, li_60, li_61, li_62, li_63, li_64, li_65, li_66, li_67, li_68, li_69, li_75, li_97, li_99, li_100, li_101, li_102, li_120, li_122, li_127, li_139, li_187, li_222, li_223, li_224, li_225, li_226, li_255, li_256, li_299, li_400, li_465, li_522, li_523, li_571, li_849, li_999, li_1000, li_1100, li_1371, li_1372, li_1420, li_1984, li_2220, li_5742, li_6264, li_9999, li_10000, li_12345, li_32767, li_65536, li_1000000, li_252645135, li_858993459, li_1103515245, li_1431655765, dd_us, dd_un, dd_u_u, pk_us, pk_un, true_and, and_true, true_implies, false_implies, implies_true, not_true_eq_false, not_false_eq_true, ne_eq, forall_const, sdm, Nat.add_zero, Nat.zero_add, sb_m1n, nmn1, nmn2, nmn3, nmn4, nmn5, nmn6, bI_0n, bI_1n, ck_and, im_t, im_f, if_pos, if_neg, hR.g]
  unfold bend at k
  refine ⟨fun q => ?_, fun q => ?_⟩
  · rw [if_neg (by omega)] at k
    refine dd_qV (k _ (RM.set ?_) ((FR.refl I).u (by decide) (by decide)))
    have e : (if w 8 + 1 < 9999 then nI (w 8 + 1) else nI 9999) = nI (min 9999 (w 8 + 1)) := by
      by_cases q2 : w 8 + 1 < 9999
      · rw [if_pos q2, Nat.min_eq_right (by omega)]
      · rw [if_neg q2, Nat.min_eq_left (by omega)]
    rw [e]
    intro j hj
    rw [nu (nu (nu hR 7 (w 7 + 1)) 7 0) 8 (min 9999 (w 8 + 1)) j hj]
    congr 1
    unfold upw
    split
    · rfl
    · split <;> rfl
  · rw [if_pos (by omega)] at k
    exact dd_qV (k _ (RM.set (nu hR _ _)) ((FR.refl I).u (by decide) (by decide)))
