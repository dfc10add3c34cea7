/-! Questions: cell, silence, hush, quiet, shifted -/
theorem mqJ {w : Nat → Nat} {v : Int32} {Ln c s : Nat} {I J : Nat → Nat → Int32} {L : Nat → Nat → Int64} {K : Int32 → (Nat → Nat → Int32) → (Nat → Nat → Int64) → Prop} {x : Int32} (hR : RM w J) (f : FM I J) (t : J 148 0 = 0) (e : x = v) (g : ∀ I2 x2, RM w I2 → FM I I2 → I2 148 0 = 0 → (((0 : Int32) = 0) → x2 = v) → K x2 I2 L) : dd_RI Ln c s K (none, .int x, sM Ln J L c s) := dd_qi (g J x hR f t (fun _ => e))
theorem A_cell {d Ln c s : Nat} {I0 I : Nat → Nat → Int32} {L : Nat → Nat → Int64} {w : Nat → Nat} {im : Option (Nat → Nat)} {na od : Nat} {A : Nat → Nat → Nat} {tp : Nat → Nat} {tl : Nat} {fa : Option Nat} (hd : 60 ≤ d) (h : INV I0 w im na od A tp tl fa I L) (a b : Int32) : PW d m_L_cell [.ref 0, .int a, .int b, .ref 163] m_X11_cell [.ref 148, .int a, .int b] I0 Ln c s I L := by
  have hO := h.1.1
  have hC := h.2.2.1
  have w4 := hO.1.2.2.2.1
  by_cases ha : vld a 64
  · obtain ⟨x, hx, rfl⟩ := vld_i (by omega) ha
    obtain ⟨hT, hF⟩ := hO.2.1 x hx
    by_cases hb : vld b 3
    · obtain ⟨j, hj, rfl⟩ := vld_i (by omega) hb
      have e : j = 0 ∨ j = 1 ∨ j = 2 := by omega
      rcases e with rfl | rfl | rfl
      · refine PW.q h _ (nI (w (11 + x))) (WR2 (e1 := 2) (e2 := 3) (o := none) (w_L_cell_0 (by omega)) (by decide) (Or.inl rfl) ?_) ?_
        · intro K T g1 g2
          refine w_X10_cell_0 (by omega) (rqC (n := 64) rfl (fun z => absurd ha z) fun _ => ?_)
          simp (disch := omega) only [nI_add, pk_mul, tn, nI_clamp, nI_eq, nI_leI, nI_ltI, pk_sub, pk_div, pk_rem, nI_nm, nI_nm2, nI_nle1, nI_nlt1, nI_le1, nI_lt1, li_0, li_1, li_2, li_3, li_4, li_5, li_6, li_7, li_8, li_9, li_10, li_11, li_12, li_13, li_14, li_15, li_16, li_17, li_18, li_19, li_20, li_21, li_22, li_23, li_24, li_25, li_26, li_27, li_28, li_29, li_30, li_31, li_32, li_33, li_34, li_35, li_36, li_37, li_38, li_39, li_40, li_41, li_42, li_43, li_44, li_45, li_46, li_47, li_48, li_49, li_50, li_51, li_52, li_53, li_54, li_55, li_56, li_57, li_58, li_59, li_60, li_61, li_62, li_63, li_64, li_65, li_66, li_67, li_68, li_69, li_75, li_97, li_99, li_100, li_101, li_102, li_120, li_122, li_127, li_139, li_187, li_222, li_223, li_224, li_225, li_226, li_255, li_256, li_299, li_400, li_465, li_522, li_523, li_571, li_849, li_999, li_1000, li_1100, li_1371, li_1372, li_1420, li_1984, li_2220, li_5742, li_6264, li_9999, li_10000, li_12345, li_32767, li_65536, li_1000000, li_252645135, li_858993459, li_1103515245, li_1431655765, dd_us, dd_un, dd_u_u, pk_us, pk_un, Bool.true_eq_false, Bool.false_eq_true, true_and, and_true, true_implies, false_implies, implies_true, not_true_eq_false, not_false_eq_true, ne_eq, forall_const, sdm, Nat.add_zero, Nat.zero_add, sb_m1n, nmn1, nmn2, nmn3, nmn4, nmn5, nmn6, bI_0n, bI_1n, ck_and, im_t, im_f, if_pos, if_neg, nI_toInt]
          refine C_isOpen (by omega) hC (by omega) ?_
          simp only [bI_0n]
          refine ⟨fun q => ?_, fun q => ?_⟩
          · rw [(opn_f hx).mp q] at g1
            exact dd_qT (g1 rfl I L (FC.refl I L))
          · have q1 : ¬ w (11 + x) = 1 := fun z => q ((opn_f hx).mpr z)
            rw [show w (11 + x) = 0 by omega] at g1
            exact dd_qT (g1 rfl I L (FC.refl I L))
        · intro I1 L1 c1 s1 h1 K g
          have hR := h1.2.1
          refine w_X11_cell_0 (by omega) (rqN (m := 63) rfl (by omega) (fun z => absurd ha z) fun _ => rqN (m := 2) rfl (by omega) (fun z => absurd hb z) fun _ => ?_)
          simp (disch := omega) only [nI_add, pk_mul, tn, nI_clamp, nI_eq, nI_leI, nI_ltI, pk_sub, pk_div, pk_rem, nI_nm, nI_nm2, nI_nle1, nI_nlt1, nI_le1, nI_lt1, li_0, li_1, li_2, li_3, li_4, li_5, li_6, li_7, li_8, li_9, li_10, li_11, li_12, li_13, li_14, li_15, li_16, li_17, li_18, li_19, li_20, li_21, li_22, li_23, li_24, li_25, li_26, li_27, li_28, li_29, li_30, li_31, li_32, li_33, li_34, li_35, li_36, li_37, li_38, li_39, li_40, li_41, li_42, li_43, li_44, li_45, li_46, li_47, li_48, li_49, li_50, li_51, li_52, li_53, li_54, li_55, li_56, li_57, li_58, li_59, li_60, li_61, li_62, li_63, li_64, li_65, li_66, li_67, li_68, li_69, li_75, li_97, li_99, li_100, li_101, li_102, li_120, li_122, li_127, li_139, li_187, li_222, li_223, li_224, li_225, li_226, li_255, li_256, li_299, li_400, li_465, li_522, li_523, li_571, li_849, li_999, li_1000, li_1100, li_1371, li_1372, li_1420, li_1984, li_2220, li_5742, li_6264, li_9999, li_10000, li_12345, li_32767, li_65536, li_1000000, li_252645135, li_858993459, li_1103515245, li_1431655765, dd_us, dd_un, dd_u_u, pk_us, pk_un, Bool.true_eq_false, Bool.false_eq_true, true_and, and_true, true_implies, false_implies, implies_true, not_true_eq_false, not_false_eq_true, ne_eq, forall_const, sdm, Nat.add_zero, Nat.zero_add, sb_m1n, nmn1, nmn2, nmn3, nmn4, nmn5, nmn6, bI_0n, bI_1n, ck_and, im_t, im_f, if_pos, if_neg, hR.g]
          exact mqR hR rfl g
      · refine PW.q h _ (nI (w (75 + x))) (WR2 (e1 := 2) (e2 := 3) (o := none) (w_L_cell_0 (by omega)) (by decide) (Or.inl rfl) ?_) ?_
        · intro K T g1 g2
          refine w_X10_cell_0 (by omega) (rqC (n := 64) rfl (fun z => absurd ha z) fun _ => ?_)
          simp (disch := omega) only [nI_add, pk_mul, tn, nI_clamp, nI_eq, nI_leI, nI_ltI, pk_sub, pk_div, pk_rem, nI_nm, nI_nm2, nI_nle1, nI_nlt1, nI_le1, nI_lt1, li_0, li_1, li_2, li_3, li_4, li_5, li_6, li_7, li_8, li_9, li_10, li_11, li_12, li_13, li_14, li_15, li_16, li_17, li_18, li_19, li_20, li_21, li_22, li_23, li_24, li_25, li_26, li_27, li_28, li_29, li_30, li_31, li_32, li_33, li_34, li_35, li_36, li_37, li_38, li_39, li_40, li_41, li_42, li_43, li_44, li_45, li_46, li_47, li_48, li_49, li_50, li_51, li_52, li_53, li_54, li_55, li_56, li_57, li_58, li_59, li_60, li_61, li_62, li_63, li_64, li_65, li_66, li_67, li_68, li_69, li_75, li_97, li_99, li_100, li_101, li_102, li_120, li_122, li_127, li_139, li_187, li_222, li_223, li_224, li_225, li_226, li_255, li_256, li_299, li_400, li_465, li_522, li_523, li_571, li_849, li_999, li_1000, li_1100, li_1371, li_1372, li_1420, li_1984, li_2220, li_5742, li_6264, li_9999, li_10000, li_12345, li_32767, li_65536, li_1000000, li_252645135, li_858993459, li_1103515245, li_1431655765, dd_us, dd_un, dd_u_u, pk_us, pk_un, Bool.true_eq_false, Bool.false_eq_true, true_and, and_true, true_implies, false_implies, implies_true, not_true_eq_false, not_false_eq_true, ne_eq, forall_const, sdm, Nat.add_zero, Nat.zero_add, sb_m1n, nmn1, nmn2, nmn3, nmn4, nmn5, nmn6, bI_0n, bI_1n, ck_and, im_t, im_f, if_pos, if_neg, nI_toInt, hC.fern]
          exact dd_qT (g1 rfl I L (FC.refl I L))
        · intro I1 L1 c1 s1 h1 K g
          have hR := h1.2.1
          refine w_X11_cell_0 (by omega) (rqN (m := 63) rfl (by omega) (fun z => absurd ha z) fun _ => rqN (m := 2) rfl (by omega) (fun z => absurd hb z) fun _ => ?_)
          simp (disch := omega) only [nI_add, pk_mul, tn, nI_clamp, nI_eq, nI_leI, nI_ltI, pk_sub, pk_div, pk_rem, nI_nm, nI_nm2, nI_nle1, nI_nlt1, nI_le1, nI_lt1, li_0, li_1, li_2, li_3, li_4, li_5, li_6, li_7, li_8, li_9, li_10, li_11, li_12, li_13, li_14, li_15, li_16, li_17, li_18, li_19, li_20, li_21, li_22, li_23, li_24, li_25, li_26, li_27, li_28, li_29, li_30, li_31, li_32, li_33, li_34, li_35, li_36, li_37, li_38, li_39, li_40, li_41, li_42, li_43, li_44, li_45, li_46, li_47, li_48, li_49, li_50, li_51, li_52, li_53, li_54, li_55, li_56, li_57, li_58, li_59, li_60, li_61, li_62, li_63, li_64, li_65, li_66, li_67, li_68, li_69, li_75, li_97, li_99, li_100, li_101, li_102, li_120, li_122, li_127, li_139, li_187, li_222, li_223, li_224, li_225, li_226, li_255, li_256, li_299, li_400, li_465, li_522, li_523, li_571, li_849, li_999, li_1000, li_1100, li_1371, li_1372, li_1420, li_1984, li_2220, li_5742, li_6264, li_9999, li_10000, li_12345, li_32767, li_65536, li_1000000, li_252645135, li_858993459, li_1103515245, li_1431655765, dd_us, dd_un, dd_u_u, pk_us, pk_un, Bool.true_eq_false, Bool.false_eq_true, true_and, and_true, true_implies, false_implies, implies_true, not_true_eq_false, not_false_eq_true, ne_eq, forall_const, sdm, Nat.add_zero, Nat.zero_add, sb_m1n, nmn1, nmn2, nmn3, nmn4, nmn5, nmn6, bI_0n, bI_1n, ck_and, im_t, im_f, if_pos, if_neg, hR.g]
          exact mqR hR rfl g
      · refine PW.q h _ (nI (gap x (w 4))) (WR2 (e1 := 2) (e2 := 3) (o := none) (w_L_cell_0 (by omega)) (by decide) (Or.inl rfl) ?_) ?_
        · intro K T g1 g2
          refine w_X10_cell_0 (by omega) (rqC (n := 64) rfl (fun z => absurd ha z) fun _ => ?_)
          simp (disch := omega) only [nI_add, pk_mul, tn, nI_clamp, nI_eq, nI_leI, nI_ltI, pk_sub, pk_div, pk_rem, nI_nm, nI_nm2, nI_nle1, nI_nlt1, nI_le1, nI_lt1, li_0, li_1, li_2, li_3, li_4, li_5, li_6, li_7, li_8, li_9, li_10, li_11, li_12, li_13, li_14, li_15, li_16, li_17, li_18, li_19, li_20, li_21, li_22, li_23, li_24, li_25, li_26, li_27, li_28, li_29, li_30, li_31, li_32, li_33, li_34, li_35, li_36, li_37, li_38, li_39, li_40, li_41, li_42, li_43, li_44, li_45, li_46, li_47, li_48, li_49, li_50, li_51, li_52, li_53, li_54, li_55, li_56, li_57, li_58, li_59, li_60, li_61, li_62, li_63, li_64, li_65, li_66, li_67, li_68, li_69, li_75, li_97, li_99, li_100, li_101, li_102, li_120, li_122, li_127, li_139, li_187, li_222, li_223, li_224, li_225, li_226, li_255, li_256, li_299, li_400, li_465, li_522, li_523, li_571, li_849, li_999, li_1000, li_1100, li_1371, li_1372, li_1420, li_1984, li_2220, li_5742, li_6264, li_9999, li_10000, li_12345, li_32767, li_65536, li_1000000, li_252645135, li_858993459, li_1103515245, li_1431655765, dd_us, dd_un, dd_u_u, pk_us, pk_un, Bool.true_eq_false, Bool.false_eq_true, true_and, and_true, true_implies, false_implies, implies_true, not_true_eq_false, not_false_eq_true, ne_eq, forall_const, sdm, Nat.add_zero, Nat.zero_add, sb_m1n, nmn1, nmn2, nmn3, nmn4, nmn5, nmn6, bI_0n, bI_1n, ck_and, im_t, im_f, if_pos, if_neg, nI_toInt]
          refine C_nearOf (by omega) hC hx w4 ?_
          exact dd_qT (g1 rfl I L (FC.refl I L))
        · intro I1 L1 c1 s1 h1 K g
          have hR := h1.2.1
          refine w_X11_cell_0 (by omega) (rqN (m := 63) rfl (by omega) (fun z => absurd ha z) fun _ => rqN (m := 2) rfl (by omega) (fun z => absurd hb z) fun _ => ?_)
          simp (disch := omega) only [nI_add, pk_mul, tn, nI_clamp, nI_eq, nI_leI, nI_ltI, pk_sub, pk_div, pk_rem, nI_nm, nI_nm2, nI_nle1, nI_nlt1, nI_le1, nI_lt1, li_0, li_1, li_2, li_3, li_4, li_5, li_6, li_7, li_8, li_9, li_10, li_11, li_12, li_13, li_14, li_15, li_16, li_17, li_18, li_19, li_20, li_21, li_22, li_23, li_24, li_25, li_26, li_27, li_28, li_29, li_30, li_31, li_32, li_33, li_34, li_35, li_36, li_37, li_38, li_39, li_40, li_41, li_42, li_43, li_44, li_45, li_46, li_47, li_48, li_49, li_50, li_51, li_52, li_53, li_54, li_55, li_56, li_57, li_58, li_59, li_60, li_61, li_62, li_63, li_64, li_65, li_66, li_67, li_68, li_69, li_75, li_97, li_99, li_100, li_101, li_102, li_120, li_122, li_127, li_139, li_187, li_222, li_223, li_224, li_225, li_226, li_255, li_256, li_299, li_400, li_465, li_522, li_523, li_571, li_849, li_999, li_1000, li_1100, li_1371, li_1372, li_1420, li_1984, li_2220, li_5742, li_6264, li_9999, li_10000, li_12345, li_32767, li_65536, li_1000000, li_252645135, li_858993459, li_1103515245, li_1431655765, dd_us, dd_un, dd_u_u, pk_us, pk_un, Bool.true_eq_false, Bool.false_eq_true, true_and, and_true, true_implies, false_implies, implies_true, not_true_eq_false, not_false_eq_true, ne_eq, forall_const, sdm, Nat.add_zero, Nat.zero_add, sb_m1n, nmn1, nmn2, nmn3, nmn4, nmn5, nmn6, bI_0n, bI_1n, ck_and, im_t, im_f, if_pos, if_neg, hR.g]
          refine M_nearOf (by omega) (hR.of (dd_un (by decide))) hx w4 ?_
          exact mqR hR rfl g
    · refine PW.q h _ 0 (WR2 (e1 := 2) (e2 := 3) (o := some 3) (w_L_cell_0 (by omega)) (by decide) (Or.inr (Or.inr rfl)) ?_) ?_
      · intro K T g1 g2
        have nj : ∀ j, j < 3 → b ≠ nI j := fun j hj e => hb (e ▸ vld_n hj (by omega))
        refine w_X10_cell_0 (by omega) (rqC (n := 64) rfl (fun z => absurd ha z) fun _ => ?_)
        exact ⟨fun _ => dd_qX (g2 3 rfl), fun e => absurd e (nj 0 (by omega)), fun e => absurd e (nj 1 (by omega)), fun e => absurd e (nj 2 (by omega))⟩
      · intro I1 L1 c1 s1 h1 K g
        have hR := h1.2.1
        refine w_X11_cell_0 (by omega) ?_
        simp only [dd_u_u, upd_uu]
        exact rqN (m := 63) rfl (by omega) (fun z => absurd ha z) fun _ => rqN (m := 2) rfl (by omega) (fun _ => mqT hR (by decide) g) fun z => absurd z hb
  · refine PW.q h _ 0 (WR2 (e1 := 2) (e2 := 3) (o := some 2) (w_L_cell_0 (by omega)) (by decide) (Or.inr (Or.inl rfl)) ?_) ?_
    · intro K T g1 g2
      exact w_X10_cell_0 (by omega) (rqC (n := 64) rfl (fun _ => dd_qX (g2 2 rfl)) fun z => absurd z ha)
    · intro I1 L1 c1 s1 h1 K g
      have hR := h1.2.1
      refine w_X11_cell_0 (by omega) ?_
      simp only [dd_u_u, upd_uu]
      exact rqN (m := 63) rfl (by omega) (fun _ => mqT hR (by decide) g) fun z => absurd z ha
def silA (w : Nat → Nat) (p : Nat) : Nat → Nat := lpf (fun b n => if w (139 + 8 * p + b) = 0 then n + 1 else n) 0
theorem M_silenceOf {d Ln c s : Nat} {I : Nat → Nat → Int32} {L : Nat → Nat → Int64} {K : Int32 → (Nat → Nat → Int32) → (Nat → Nat → Int64) → Prop} {w : Nat → Nat} {p : Nat} (hd : 28 ≤ d) (hR : RM w I) (hO : OKW w) (hp : p < 6) (k : K (nI (silA w p 8)) I L) : dd_Ev d m_X11_silenceOf [.ref 148, .int (nI p)] (sM Ln I L c s) (dd_RI Ln c s K) := by
  refine w_X11_silenceOf_0 hd ?_
  refine dd_lp (fun i => dd_Rn d m_X11_silenceOf (4, [.ref 148, .int (nI p), .int (nI (silA w p i)), .int (nI i)], [], sM Ln I L c s) (dd_RI Ln c s K)) 8 ?_ ?_
  · refine w_X11_silenceOf_4 hd ?_
    simp (disch := omega) only [nI_add, pk_mul, tn, nI_clamp, nI_eq, nI_leI, nI_ltI, pk_sub, pk_div, pk_rem, nI_nm, nI_nm2, nI_nle1, nI_nlt1, nI_le1, nI_lt1, li_0, li_1, li_2, li_3, li_4, li_5, li_6, li_7, li_8, li_9, li_10, li_11, li_12, li_13, li_14, li_15, li_16, li_17, li_18, li_19, li_20, li_21, li_22, li_23, li_24, li_25, li_26, li_27, li_28, li_29, li_30, li_31, li_32, li_33, li_34, li_35, li_36, li_37, li_38, li_39, li_40, li_41, li_42, li_43, li_44, li_45, li_46, li_47, li_48, li_49, li_50, li_51, li_52, li_53, li_54, li_55, li_56, li_57, li_58, li_59, li_60, li_61, li_62, li_63, li_64, li_65, li_66, li_67, li_68, li_69, li_75, li_97, li_99, li_100, li_101, li_102, li_120, li_122, li_127, li_139, li_187, li_222, li_223, li_224, li_225, li_226, li_255, li_256, li_299, li_400, li_465, li_522, li_523, li_571, li_849, li_999, li_1000, li_1100, li_1371, li_1372, li_1420, li_1984, li_2220, li_5742, li_6264, li_9999, li_10000, li_12345, li_32767, li_65536, li_1000000, li_252645135, li_858993459, li_1103515245, li_1431655765, dd_us, dd_un, dd_u_u, pk_us, pk_un, Bool.true_eq_false, Bool.false_eq_true, true_and, and_true, true_implies, false_implies, implies_true, not_true_eq_false, not_false_eq_true, ne_eq, forall_const, sdm, Nat.add_zero, Nat.zero_add, sb_m1n, nmn1, nmn2, nmn3, nmn4, nmn5, nmn6, bI_0n, bI_1n, ck_and, im_t, im_f, if_pos, if_neg]
    exact dd_qi k
  · intro i hi ih
    have b1 := hO.2.2.1 p hp i hi
    have e : silA w p (i + 1) = if w (139 + 8 * p + i) = 0 then silA w p i + 1 else silA w p i := rfl
    rw [e] at ih
    refine w_X11_silenceOf_4 hd ?_
    simp (disch := omega) only [nI_add, pk_mul, tn, nI_clamp, nI_eq, nI_leI, nI_ltI, pk_sub, pk_div, pk_rem, nI_nm, nI_nm2, nI_nle1, nI_nlt1, nI_le1, nI_lt1, li_0, li_1, li_2, li_3, li_4, li_5, li_6, li_7, li_8, li_9, li_10, li_11, li_12, li_13, li_14, li_15, li_16, li_17, li_18, li_19, li_20, li_21, li_22, li_23, li_24, li_25, li_26, li_27, li_28, li_29, li_30, li_31, li_32, li_33, li_34, li_35, li_36, li_37, li_38, li_39, li_40, li_41, li_42, li_43, li_44, li_45, li_46, li_47, li_48, li_49, li_50, li_51, li_52, li_53, li_54, li_55, li_56, li_57, li_58, li_59, li_60, li_61, li_62, li_63, li_64, li_65, li_66, li_67, li_68, li_69, li_75, li_97, li_99, li_100, li_101, li_102, li_120, li_122, li_127, li_139, li_187, li_222, li_223, li_224, li_225, li_226, li_255, li_256, li_299, li_400, li_465, li_522, li_523, li_571, li_849, li_999, li_1000, li_1100, li_1371, li_1372, li_1420, li_1984, li_2220, li_5742, li_6264, li_9999, li_10000, li_12345, li_32767, li_65536, li_1000000, li_252645135, li_858993459, li_1103515245, li_1431655765, dd_us, dd_un, dd_u_u, pk_us, pk_un, Bool.true_eq_false, Bool.false_eq_true, true_and, and_true, true_implies, false_implies, implies_true, not_true_eq_false, not_false_eq_true, ne_eq, forall_const, sdm, Nat.add_zero, Nat.zero_add, sb_m1n, nmn1, nmn2, nmn3, nmn4, nmn5, nmn6, bI_0n, bI_1n, ck_and, im_t, im_f, if_pos, if_neg, hR.g]
    refine ⟨fun q => ?_, fun q => ?_⟩
    · rw [if_pos q] at ih; exact ih
    · rw [if_neg q] at ih; exact ih
theorem C_silencesOf {d Ln c s : Nat} {I : Nat → Nat → Int32} {L : Nat → Nat → Int64} {K : Int32 → (Nat → Nat → Int32) → (Nat → Nat → Int64) → Prop} {w : Nat → Nat} {p : Nat} (hd : 28 ≤ d) (hC : RC w I L) (hO : OKW w) (hp : p < 6) (k : K (nI (silA w p 8)) I L) : dd_Ev d m_X8_silencesOf [.ref 1, .int (nI p)] (sM Ln I L c s) (dd_RI Ln c s K) := by
  refine w_X8_silencesOf_0 hd ?_
  refine dd_lp (fun i => dd_Rn d m_X8_silencesOf (4, [.ref 1, .int (nI p), .int (nI (silA w p i)), .int (nI i)], [], sM Ln I L c s) (dd_RI Ln c s K)) 8 ?_ ?_
  · refine w_X8_silencesOf_4 hd ?_
    simp (disch := omega) only [nI_add, pk_mul, tn, nI_clamp, nI_eq, nI_leI, nI_ltI, pk_sub, pk_div, pk_rem, nI_nm, nI_nm2, nI_nle1, nI_nlt1, nI_le1, nI_lt1, li_0, li_1, li_2, li_3, li_4, li_5, li_6, li_7, li_8, li_9, li_10, li_11, li_12, li_13, li_14, li_15, li_16, li_17, li_18, li_19, li_20, li_21, li_22, li_23, li_24, li_25, li_26, li_27, li_28, li_29, li_30, li_31, li_32, li_33, li_34, li_35, li_36, li_37, li_38, li_39, li_40, li_41, li_42, li_43, li_44, li_45, li_46, li_47, li_48, li_49, li_50, li_51, li_52, li_53, li_54, li_55, li_56, li_57, li_58, li_59, li_60, li_61, li_62, li_63, li_64, li_65, li_66, li_67, li_68, li_69, li_75, li_97, li_99, li_100, li_101, li_102, li_120, li_122, li_127, li_139, li_187, li_222, li_223, li_224, li_225, li_226, li_255, li_256, li_299, li_400, li_465, li_522, li_523, li_571, li_849, li_999, li_1000, li_1100, li_1371, li_1372, li_1420, li_1984, li_2220, li_5742, li_6264, li_9999, li_10000, li_12345, li_32767, li_65536, li_1000000, li_252645135, li_858993459, li_1103515245, li_1431655765, dd_us, dd_un, dd_u_u, pk_us, pk_un, Bool.true_eq_false, Bool.false_eq_true, true_and, and_true, true_implies, false_implies, implies_true, not_true_eq_false, not_false_eq_true, ne_eq, forall_const, sdm, Nat.add_zero, Nat.zero_add, sb_m1n, nmn1, nmn2, nmn3, nmn4, nmn5, nmn6, bI_0n, bI_1n, ck_and, im_t, im_f, if_pos, if_neg]
    exact dd_qi k
  · intro i hi ih
    have b1 := hO.2.2.1 p hp i hi
    have e : silA w p (i + 1) = if w (139 + 8 * p + i) = 0 then silA w p i + 1 else silA w p i := rfl
    have e2 : 139 + (p * 8 + i) = 139 + 8 * p + i := by omega
    rw [e] at ih
    refine w_X8_silencesOf_4 hd ?_
    simp (disch := omega) only [nI_add, pk_mul, tn, nI_clamp, nI_eq, nI_leI, nI_ltI, pk_sub, pk_div, pk_rem, nI_nm, nI_nm2, nI_nle1, nI_nlt1, nI_le1, nI_lt1, li_0, li_1, li_2, li_3, li_4, li_5, li_6, li_7, li_8, li_9, li_10, li_11, li_12, li_13, li_14, li_15, li_16, li_17, li_18, li_19, li_20, li_21, li_22, li_23, li_24, li_25, li_26, li_27, li_28, li_29, li_30, li_31, li_32, li_33, li_34, li_35, li_36, li_37, li_38, li_39, li_40, li_41, li_42, li_43, li_44, li_45, li_46, li_47, li_48, li_49, li_50, li_51, li_52, li_53, li_54, li_55, li_56, li_57, li_58, li_59, li_60, li_61, li_62, li_63, li_64, li_65, li_66, li_67, li_68, li_69, li_75, li_97, li_99, li_100, li_101, li_102, li_120, li_122, li_127, li_139, li_187, li_222, li_223, li_224, li_225, li_226, li_255, li_256, li_299, li_400, li_465, li_522, li_523, li_571, li_849, li_999, li_1000, li_1100, li_1371, li_1372, li_1420, li_1984, li_2220, li_5742, li_6264, li_9999, li_10000, li_12345, li_32767, li_65536, li_1000000, li_252645135, li_858993459, li_1103515245, li_1431655765, dd_us, dd_un, dd_u_u, pk_us, pk_un, Bool.true_eq_false, Bool.false_eq_true, true_and, and_true, true_implies, false_implies, implies_true, not_true_eq_false, not_false_eq_true, ne_eq, forall_const, sdm, Nat.add_zero, Nat.zero_add, sb_m1n, nmn1, nmn2, nmn3, nmn4, nmn5, nmn6, bI_0n, bI_1n, ck_and, im_t, im_f, if_pos, if_neg, hC.note, e2]
    refine ⟨fun q => ?_, fun q => ?_⟩
    · rw [if_pos q] at ih; exact ih
    · rw [if_neg q] at ih; exact ih
theorem silA_le {w : Nat → Nat} {p : Nat} : ∀ i, silA w p i ≤ i := by
  intro i
  induction i with
  | zero => exact Nat.le_refl _
  | succ i ih =>
    have e : silA w p (i + 1) = if w (139 + 8 * p + i) = 0 then silA w p i + 1 else silA w p i := rfl
    rw [e]
    split <;> omega
theorem A_silence {d Ln c s : Nat} {I0 I : Nat → Nat → Int32} {L : Nat → Nat → Int64} {w : Nat → Nat} {im : Option (Nat → Nat)} {na od : Nat} {A : Nat → Nat → Nat} {tp : Nat → Nat} {tl : Nat} {fa : Option Nat} (hd : 60 ≤ d) (h : INV I0 w im na od A tp tl fa I L) (a : Int32) : PW d m_L_silence [.ref 0, .int a, .ref 163] m_X11_silence [.ref 148, .int a] I0 Ln c s I L := by
  have hO := h.1.1
  have w0 := hO.1.1
  have hC := h.2.2.1
  by_cases hv : vld a (w 0)
  · obtain ⟨p, hp, rfl⟩ := vld_i (by omega) hv
    refine PW.q h _ (nI (silA w p 8)) (WR1 (e1 := 2) (o := none) (w_L_silence_0 (by omega)) (Or.inl rfl) ?_) ?_
    · intro K T g1 g2
      refine w_X10_silence_0 (by omega) (rqC hC.parts (fun z => absurd hv z) fun _ => ?_)
      refine C_silencesOf (by omega) hC hO (by omega) ?_
      exact dd_qT (g1 rfl I L (FC.refl I L))
    · intro I1 L1 c1 s1 h1 K g
      have hR := h1.2.1
      refine w_X11_silence_0 (by omega) (rqM (hR.g (by omega)) (by omega) (fun z => absurd hv z) fun _ => ?_)
      refine M_silenceOf (by omega) (hR.of (dd_un (by decide))) hO (by omega) ?_
      exact mqR hR rfl g
  · refine PW.q h _ 0 (WR1 (e1 := 2) (o := some 2) (w_L_silence_0 (by omega)) (Or.inr rfl) ?_) ?_
    · intro K T g1 g2
      exact w_X10_silence_0 (by omega) (rqC hC.parts (fun _ => dd_qX (g2 2 rfl)) fun z => absurd z hv)
    · intro I1 L1 c1 s1 h1 K g
      have hR := h1.2.1
      refine w_X11_silence_0 (by omega) ?_
      rw [dd_u_u, upd_uu]
      exact rqM (hR.g (by omega)) (by omega) (fun _ => mqT hR (by decide) g) fun z => absurd z hv
/-- the longest hush, and the one that goes on -/
def hshA (w : Nat → Nat) (p : Nat) : Nat → Nat × Nat := lpf (fun i t => if w (139 + 8 * p + i % 8) = 0 then (max t.1 (t.2 + 1), t.2 + 1) else (t.1, 0)) (0, 0)
theorem hshA_le {w : Nat → Nat} {p : Nat} : ∀ i, (hshA w p i).1 ≤ i ∧ (hshA w p i).2 ≤ i := by
  intro i
  induction i with
  | zero => exact ⟨Nat.le_refl _, Nat.le_refl _⟩
  | succ i ih =>
    have e : hshA w p (i + 1) = if w (139 + 8 * p + i % 8) = 0 then (max (hshA w p i).1 ((hshA w p i).2 + 1), (hshA w p i).2 + 1) else ((hshA w p i).1, 0) := rfl
    rw [e]
    split
    · exact ⟨by show max _ _ ≤ _; omega, by show _ + 1 ≤ _; omega⟩
    · exact ⟨by show (hshA w p i).1 ≤ _; omega, Nat.zero_le _⟩
theorem A_hush {d Ln c s : Nat} {I0 I : Nat → Nat → Int32} {L : Nat → Nat → Int64} {w : Nat → Nat} {im : Option (Nat → Nat)} {na od : Nat} {A : Nat → Nat → Nat} {tp : Nat → Nat} {tl : Nat} {fa : Option Nat} (hd : 60 ≤ d) (h : INV I0 w im na od A tp tl fa I L) (a : Int32) : PW d m_L_hush [.ref 0, .int a, .ref 163] m_X11_hush [.ref 148, .int a] I0 Ln c s I L := by
  have hO := h.1.1
  have w0 := hO.1.1
  have hC := h.2.2.1
  by_cases hv : vld a (w 0)
  · obtain ⟨p, hp, rfl⟩ := vld_i (by omega) hv
    refine PW.q h _ (nI (min 8 (hshA w p 16).1)) (WR1 (e1 := 2) (o := none) (w_L_hush_0 (by omega)) (Or.inl rfl) ?_) ?_
    · intro K T g1 g2
      refine w_X10_hush_0 (by omega) (rqC hC.parts (fun z => absurd hv z) fun _ => ?_)
      refine dd_lp (fun i => dd_Rn (d - 1) m_X10_hush (12, [.ref 0, .int (nI p), .int (nI (hshA w p i).1), .int (nI (hshA w p i).2), .int (nI i)], [], sM Ln I L c s) (dd_TI Ln c s K T)) 16 ?_ ?_
      · have b := hshA_le (w := w) (p := p) 16
        refine w_X10_hush_12 (by omega) ?_
        simp (disch := omega) only [nI_add, pk_mul, tn, nI_clamp, nI_eq, nI_leI, nI_ltI, pk_sub, pk_div, pk_rem, nI_nm, nI_nm2, nI_nle1, nI_nlt1, nI_le1, nI_lt1, li_0, li_1, li_2, li_3, li_4, li_5, li_6, li_7, li_8, li_9, li_10, li_11, li_12, li_13, li_14, li_15, li_16, li_17, li_18, li_19, li_20, li_21, li_22, li_23, li_24, li_25, li_26, li_27, li_28, li_29, li_30, li_31, li_32, li_33, li_34, li_35, li_36, li_37, li_38, li_39, li_40, li_41, li_42, li_43, li_44, li_45, li_46, li_47, li_48, li_49, li_50, li_51, li_52, li_53, li_54, li_55, li_56, li_57, li_58, li_59, li_60, li_61, li_62, li_63, li_64, li_65, li_66, li_67, li_68, li_69, li_75, li_97, li_99, li_100, li_101, li_102, li_120, li_122, li_127, li_139, li_187, li_222, li_223, li_224, li_225, li_226, li_255, li_256, li_299, li_400, li_465, li_522, li_523, li_571, li_849, li_999, li_1000, li_1100, li_1371, li_1372, li_1420, li_1984, li_2220, li_5742, li_6264, li_9999, li_10000, li_12345, li_32767, li_65536, li_1000000, li_252645135, li_858993459, li_1103515245, li_1431655765, dd_us, dd_un, dd_u_u, pk_us, pk_un, Bool.true_eq_false, Bool.false_eq_true, true_and, and_true, true_implies, false_implies, implies_true, not_true_eq_false, not_false_eq_true, ne_eq, forall_const, sdm, Nat.add_zero, Nat.zero_add, sb_m1n, nmn1, nmn2, nmn3, nmn4, nmn5, nmn6, bI_0n, bI_1n, ck_and, im_t, im_f, if_pos, if_neg, ite_n]
        rw [show (if 8 < (hshA w p 16).1 then 8 else (hshA w p 16).1) = min 8 (hshA w p 16).1 by split <;> omega]
        exact dd_qT (g1 rfl I L (FC.refl I L))
      · intro i hi ih
        have b := hshA_le (w := w) (p := p) i
        have b1 := hO.2.2.1 p (by omega) (i % 8) (by omega)
        have e : hshA w p (i + 1) = if w (139 + 8 * p + i % 8) = 0 then (max (hshA w p i).1 ((hshA w p i).2 + 1), (hshA w p i).2 + 1) else ((hshA w p i).1, 0) := rfl
        have e2 : 139 + (p * 8 + i % 8) = 139 + 8 * p + i % 8 := by omega
        rw [e] at ih
        refine w_X10_hush_12 (by omega) ?_
        simp (disch := omega) only [nI_add, pk_mul, tn, nI_clamp, nI_eq, nI_leI, nI_ltI, pk_sub, pk_div, pk_rem, nI_nm, nI_nm2, nI_nle1, nI_nlt1, nI_le1, nI_lt1, li_0, li_1, li_2, li_3, li_4, li_5, li_6, li_7, li_8, li_9, li_10, li_11, li_12, li_13, li_14, li_15, li_16, li_17, li_18, li_19, li_20, li_21, li_22, li_23, li_24, li_25, li_26, li_27, li_28, li_29, li_30, li_31, li_32, li_33, li_34, li_35, li_36, li_37, li_38, li_39, li_40, li_41, li_42, li_43, li_44, li_45, li_46, li_47, li_48, li_49, li_50, li_51, li_52, li_53, li_54, li_55, li_56, li_57, li_58, li_59, li_60, li_61, li_62, li_63, li_64, li_65, li_66, li_67, li_68, li_69, li_75, li_97, li_99, li_100, li_101, li_102, li_120, li_122, li_127, li_139, li_187, li_222, li_223, li_224, li_225, li_226, li_255, li_256, li_299, li_400, li_465, li_522, li_523, li_571, li_849, li_999, li_1000, li_1100, li_1371, li_1372, li_1420, li_1984, li_2220, li_5742, li_6264, li_9999, li_10000, li_12345, li_32767, li_65536, li_1000000, li_252645135, li_858993459, li_1103515245, li_1431655765, dd_us, dd_un, dd_u_u, pk_us, pk_un, Bool.true_eq_false, Bool.false_eq_true, true_and, and_true, true_implies, false_implies, implies_true, not_true_eq_false, not_false_eq_true, ne_eq, forall_const, sdm, Nat.add_zero, Nat.zero_add, sb_m1n, nmn1, nmn2, nmn3, nmn4, nmn5, nmn6, bI_0n, bI_1n, ck_and, im_t, im_f, if_pos, if_neg, hC.note, e2, ite_n]
        refine ⟨fun q => ?_, fun q => ?_⟩
        · rw [if_pos q] at ih
          rw [show (if (hshA w p i).1 < (hshA w p i).2 + 1 then (hshA w p i).2 + 1 else (hshA w p i).1) = max (hshA w p i).1 ((hshA w p i).2 + 1) by split <;> omega]
          exact ih
        · rw [if_neg q] at ih
          exact ih
    · intro I1 L1 c1 s1 h1 K g
      have hR := h1.2.1
      have hR1 : RM w (dd_u I1 148 (upd (I1 148) 0 0)) := hR.of (dd_un (by decide))
      refine w_X11_hush_0 (by omega) (rqM (hR.g (by omega)) (by omega) (fun z => absurd hv z) fun _ => ?_)
      have fj := FM.th I1 0
      have t0 := thr0 (I := I1) (v := 0)
      generalize dd_u I1 148 (upd (I1 148) 0 0) = J at *
      refine dd_lp (fun i => dd_Rn d m_X11_hush (27, [.ref 148, .int (nI p), .int (nI (hshA w p i).1), .int (nI (hshA w p i).2), .int (nI i)], [], sM Ln J L1 c1 s1) (dd_RI Ln c1 s1 K)) 16 ?_ ?_
      · have b := hshA_le (w := w) (p := p) 16
        refine w_X11_hush_27 (by omega) ?_
        simp (disch := omega) only [nI_add, pk_mul, tn, nI_clamp, nI_eq, nI_leI, nI_ltI, pk_sub, pk_div, pk_rem, nI_nm, nI_nm2, nI_nle1, nI_nlt1, nI_le1, nI_lt1, li_0, li_1, li_2, li_3, li_4, li_5, li_6, li_7, li_8, li_9, li_10, li_11, li_12, li_13, li_14, li_15, li_16, li_17, li_18, li_19, li_20, li_21, li_22, li_23, li_24, li_25, li_26, li_27, li_28, li_29, li_30, li_31, li_32, li_33, li_34, li_35, li_36, li_37, li_38, li_39, li_40, li_41, li_42, li_43, li_44, li_45, li_46, li_47, li_48, li_49, li_50, li_51, li_52, li_53, li_54, li_55, li_56, li_57, li_58, li_59, li_60, li_61, li_62, li_63, li_64, li_65, li_66, li_67, li_68, li_69, li_75, li_97, li_99, li_100, li_101, li_102, li_120, li_122, li_127, li_139, li_187, li_222, li_223, li_224, li_225, li_226, li_255, li_256, li_299, li_400, li_465, li_522, li_523, li_571, li_849, li_999, li_1000, li_1100, li_1371, li_1372, li_1420, li_1984, li_2220, li_5742, li_6264, li_9999, li_10000, li_12345, li_32767, li_65536, li_1000000, li_252645135, li_858993459, li_1103515245, li_1431655765, dd_us, dd_un, dd_u_u, pk_us, pk_un, Bool.true_eq_false, Bool.false_eq_true, true_and, and_true, true_implies, false_implies, implies_true, not_true_eq_false, not_false_eq_true, ne_eq, forall_const, sdm, Nat.add_zero, Nat.zero_add, sb_m1n, nmn1, nmn2, nmn3, nmn4, nmn5, nmn6, bI_0n, bI_1n, ck_and, im_t, im_f, if_pos, if_neg, ite_n]
        refine mqJ hR1 fj t0 ?_ g
        refine congrArg nI ?_
        split <;> omega
      · intro i hi ih
        have b := hshA_le (w := w) (p := p) i
        have b1 := hO.2.2.1 p (by omega) (i % 8) (by omega)
        have e : hshA w p (i + 1) = if w (139 + 8 * p + i % 8) = 0 then (max (hshA w p i).1 ((hshA w p i).2 + 1), (hshA w p i).2 + 1) else ((hshA w p i).1, 0) := rfl
        rw [e] at ih
        refine w_X11_hush_27 (by omega) ?_
        simp (disch := omega) only [nI_add, pk_mul, tn, nI_clamp, nI_eq, nI_leI, nI_ltI, pk_sub, pk_div, pk_rem, nI_nm, nI_nm2, nI_nle1, nI_nlt1, nI_le1, nI_lt1, li_0, li_1, li_2, li_3, li_4, li_5, li_6, li_7, li_8, li_9, li_10, li_11, li_12, li_13, li_14, li_15, li_16, li_17, li_18, li_19, li_20, li_21, li_22, li_23, li_24, li_25, li_26, li_27, li_28, li_29, li_30, li_31, li_32, li_33, li_34, li_35, li_36, li_37, li_38, li_39, li_40, li_41, li_42, li_43, li_44, li_45, li_46, li_47, li_48, li_49, li_50, li_51, li_52, li_53, li_54, li_55, li_56, li_57, li_58, li_59, li_60, li_61, li_62, li_63, li_64, li_65, li_66, li_67, li_68, li_69, li_75, li_97, li_99, li_100, li_101, li_102, li_120, li_122, li_127, li_139, li_187, li_222, li_223, li_224, li_225, li_226, li_255, li_256, li_299, li_400, li_465, li_522, li_523, li_571, li_849, li_999, li_1000, li_1100, li_1371, li_1372, li_1420, li_1984, li_2220, li_5742, li_6264, li_9999, li_10000, li_12345, li_32767, li_65536, li_1000000, li_252645135, li_858993459, li_1103515245, li_1431655765, Bool.true_eq_false, Bool.false_eq_true, true_and, and_true, true_implies, false_implies, implies_true, not_true_eq_false, not_false_eq_true, ne_eq, forall_const, ck_and, im_t, im_f, if_pos, if_neg, sdm, hR1.g, ite_n]
        refine ⟨fun q => ?_, fun q => ?_⟩
        · rw [if_pos q] at ih
          rw [show (if (hshA w p i).1 < (hshA w p i).2 + 1 then (hshA w p i).2 + 1 else (hshA w p i).1) = max (hshA w p i).1 ((hshA w p i).2 + 1) by split <;> omega]
          exact ih
        · rw [if_neg q] at ih
          exact ih
  · refine PW.q h _ 0 (WR1 (e1 := 2) (o := some 2) (w_L_hush_0 (by omega)) (Or.inr rfl) ?_) ?_
    · intro K T g1 g2
      exact w_X10_hush_0 (by omega) (rqC hC.parts (fun _ => dd_qX (g2 2 rfl)) fun z => absurd z hv)
    · intro I1 L1 c1 s1 h1 K g
      have hR := h1.2.1
      refine w_X11_hush_0 (by omega) ?_
      rw [dd_u_u, upd_uu]
      exact rqM (hR.g (by omega)) (by omega) (fun _ => mqT hR (by decide) g) fun z => absurd z hv
