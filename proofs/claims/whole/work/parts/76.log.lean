/-! Questions: log, led -/
theorem C_rowOfN {d Ln c s : Nat} {I : Nat → Nat → Int32} {L : Nat → Nat → Int64} {K : Int32 → (Nat → Nat → Int32) → (Nat → Nat → Int64) → Prop} {w : Nat → Nat} {a a2 : Int32} (hd : 28 ≤ d) (hC : RC w I L) (ha : ¬ vld a (w 9)) (k : K (-1) I L) : dd_Ev d m_X8_rowOf [.ref 1, .int a, .int a2] (sM Ln I L c s) (dd_RI Ln c s K) := by
  refine w_X8_rowOf_0 hd ?_
  exact rqC hC.rows (fun _ => dd_qi k) fun z => absurd z ha
theorem A_log {d Ln c s : Nat} {I0 I : Nat → Nat → Int32} {L : Nat → Nat → Int64} {w : Nat → Nat} {im : Option (Nat → Nat)} {na od : Nat} {A : Nat → Nat → Nat} {tp : Nat → Nat} {tl : Nat} {fa : Option Nat} (hd : 60 ≤ d) (h : INV I0 w im na od A tp tl fa I L) (a a2 : Int32) : PW d m_L_log [.ref 0, .int a, .int a2, .ref 163] m_X11_log [.ref 148, .int a, .int a2] I0 Ln c s I L := by
  have hO := h.1.1
  have w9 := hO.1.2.2.2.2.2.2.2.2.1
  have hL := h.1.2.2.2.1
  have hC := h.2.2.1
  by_cases hv2 : vld a2 5
  · obtain ⟨j, hj, rfl⟩ := vld_i (by omega) hv2
    by_cases hv : vld a (w 9)
    · obtain ⟨x, hx, rfl⟩ := vld_i (by omega) hv
      refine PW.q h _ (nI (w (222 + 5 * x + j))) (WR1 (e1 := 3) (o := none) (w_L_log_0 (by omega)) (Or.inl rfl) ?_) ?_
      · intro K T g1 g2
        refine w_X10_log_0 (by omega) (rqL (m := 4) rfl (by omega) (fun z => absurd hv2 z) fun _ => ?_)
        refine C_rowOf (by omega) hC w9 hL hx hj ?_
        exact dd_qT (g1 rfl I L (FC.refl I L))
      · intro I1 L1 c1 s1 h1 K g
        have hR := h1.2.1
        refine w_X11_log_0 (by omega) (rqN (m := 4) rfl (by omega) (fun z => absurd hv2 z) fun _ => rqM (hR.g (by omega)) (by omega) (fun z => absurd hv z) fun _ => ?_)
        simp (disch := omega) only [nI_add, pk_mul, tn, nI_clamp, nI_eq, nI_leI, nI_ltI, pk_sub, pk_div, pk_rem, nI_nm, nI_nm2, nI_nle1, nI_nlt1, nI_le1, nI_lt1, li_0, li_1, li_2, li_3, li_4, li_5, li_6, li_7, li_8, li_9, li_10, li_11, li_12, li_13, li_14, li_15, li_16, li_17, li_18, li_19, li_20, li_21, li_22, li_23, li_24, li_25, li_26, li_27, li_28, li_29, li_30, li_31, li_32, li_33, li_34, li_35, li_36, li_37, li_38, li_39, li_40, li_41, li_42, li_43, li_44, li_45, li_46, li_47, li_48, li_49, li_50, li_51, li_52, li_53, li_54, li_55, li_56, li_57, li_58, li_59, li_60, li_61, li_62, li_63, li_64, li_65, li_66, li_67, li_68, li_69, li_75, li_97, li_99, li_100, li_101, li_102, li_120, li_122, li_127, li_139, li_187, li_222, li_223, li_224, li_225, li_226, li_255, li_256, li_299, li_400, li_465, li_522, li_523, li_571, li_849, li_999, li_1000, li_1100, li_1371, li_1372, li_1420, li_1984, li_2220, li_5742, li_6264, li_9999, li_10000, li_12345, li_32767, li_65536, li_1000000, li_252645135, li_858993459, li_1103515245, li_1431655765, dd_us, dd_un, dd_u_u, pk_us, pk_un, Bool.true_eq_false, Bool.false_eq_true, true_and, and_true, true_implies, false_implies, implies_true, not_true_eq_false, not_false_eq_true, ne_eq, forall_const, sdm, Nat.add_zero, Nat.zero_add, sb_m1n, nmn1, nmn2, nmn3, nmn4, nmn5, nmn6, bI_0n, bI_1n, ck_and, im_t, im_f, if_pos, if_neg, hR.g]
        exact mqR hR rfl g
    · refine PW.q h _ (-1) (WR1 (e1 := 3) (o := none) (w_L_log_0 (by omega)) (Or.inl rfl) ?_) ?_
      · intro K T g1 g2
        refine w_X10_log_0 (by omega) (rqL (m := 4) rfl (by omega) (fun z => absurd hv2 z) fun _ => ?_)
        refine C_rowOfN (by omega) hC hv ?_
        exact dd_qT (g1 rfl I L (FC.refl I L))
      · intro I1 L1 c1 s1 h1 K g
        have hR := h1.2.1
        exact w_X11_log_0 (by omega) (rqN (m := 4) rfl (by omega) (fun z => absurd hv2 z) fun _ => rqM (hR.g (by omega)) (by omega) (fun _ => mqR hR rfl g) fun z => absurd z hv)
  · refine PW.q h _ 0 (WR1 (e1 := 3) (o := some 3) (w_L_log_0 (by omega)) (Or.inr rfl) ?_) ?_
    · intro K T g1 g2
      exact w_X10_log_0 (by omega) (rqL (m := 4) rfl (by omega) (fun _ => dd_qX (g2 3 rfl)) fun z => absurd z hv2)
    · intro I1 L1 c1 s1 h1 K g
      have hR := h1.2.1
      refine w_X11_log_0 (by omega) ?_
      simp only [dd_u_u, upd_uu]
      exact rqN (m := 4) rfl (by omega) (fun _ => mqT hR (by decide) g) fun z => absurd z hv2
def ldA (w : Nat → Nat) (b : Nat) : Nat → Nat × Int32 := lpf (fun t s => if w (222 + 5 * (w 9 - 1 - t) + 2) = b then (s.1 + 1, nI (w (222 + 5 * (w 9 - 1 - t) + 4))) else s) (0, -1)
def ld5 (w : Nat → Nat) (t : Nat) : Int32 := if t < w 9 then nI (w 9 - 1 - t) else -1
theorem ld5_s {w : Nat → Nat} {t : Nat} (h : t < w 9) : ld5 w t + (-1) = ld5 w (t + 1) := by
  unfold ld5
  rw [if_pos h]
  by_cases q : t + 1 < w 9
  · rw [if_pos q, sb_m1 (by omega), show w 9 - 1 - t - 1 = w 9 - 1 - (t + 1) by omega]
  · rw [if_neg q, show w 9 - 1 - t = 0 by omega]
    exact m1_0
theorem ld5_0 {w : Nat → Nat} : nI (w 9) - 1 = ld5 w 0 := by
  unfold ld5
  by_cases q : 0 < w 9
  · rw [if_pos q, li_1, pk_sub (by omega), Nat.sub_zero]
  · rw [if_neg q, show w 9 = 0 by omega]
    decide
theorem A_led {d Ln c s : Nat} {I0 I : Nat → Nat → Int32} {L : Nat → Nat → Int64} {w : Nat → Nat} {im : Option (Nat → Nat)} {na od : Nat} {A : Nat → Nat → Nat} {tp : Nat → Nat} {tl : Nat} {fa : Option Nat} (hd : 60 ≤ d) (h : INV I0 w im na od A tp tl fa I L) (a a2 : Int32) : PW d m_L_led [.ref 0, .int a, .int a2, .ref 163] m_X11_led [.ref 148, .int a, .int a2] I0 Ln c s I L := by
  have hO := h.1.1
  have w1 := hO.1.2.1
  have w9 := hO.1.2.2.2.2.2.2.2.2.1
  have hL := h.1.2.2.2.1
  have hC := h.2.2.1
  by_cases hv : vld a (w 1)
  · obtain ⟨b, hb, rfl⟩ := vld_i (by omega) hv
    have hs : ∀ t, ldA w b (t + 1) = if w (222 + 5 * (w 9 - 1 - t) + 2) = b then ((ldA w b t).1 + 1, nI (w (222 + 5 * (w 9 - 1 - t) + 4))) else ldA w b t := fun _ => rfl
    refine PW.q h _ (if a2 = 0 then nI (ldA w b (w 9)).1 else (ldA w b (w 9)).2) (WR1 (e1 := 2) (o := none) (w_L_led_0 (by omega)) (Or.inl rfl) ?_) ?_
    · intro K T g1 g2
      refine w_X10_led_0 (by omega) (rqC hC.boys (fun z => absurd hv z) fun _ => ?_)
      rw [hC.rows, ld5_0]
      refine dd_lp (fun t => dd_Rn (d - 1) m_X10_led (21, [.ref 0, .int (nI b), .int a2, .int (nI (ldA w b t).1), .int (ldA w b t).2, .int (ld5 w t)], [], sM Ln I L c s) (dd_TI Ln c s K T)) (w 9) ?_ ?_
      · refine w_X10_led_21 (by omega) ⟨fun _ => ⟨fun q => ?_, fun q => ?_⟩, fun z => absurd ?_ z⟩
        · rw [if_pos q] at g1
          exact dd_qT (g1 rfl I L (FC.refl I L))
        · rw [if_neg q] at g1
          exact dd_qT (g1 rfl I L (FC.refl I L))
        · unfold ld5
          rw [if_neg (Nat.lt_irrefl _)]
          decide
      · intro t ht ih
        rw [hs] at ih
        obtain ⟨l1, l2, l3, l4, l5⟩ := hL (w 9 - 1 - t) (by omega)
        have e5 : ld5 w t = nI (w 9 - 1 - t) := if_pos ht
        refine w_X10_led_21 (by omega) ?_
        rw [ld5_s ht, e5]
        refine ⟨fun z => absurd z (nI_pos (by omega)), fun _ => ?_⟩
        refine C_rowOf (j := 2) (by omega) hC w9 hL (by omega) (by omega) ?_
        rw [nI_eq (by omega) (by omega)]
        refine ⟨fun q => ?_, fun q => ?_⟩
        · refine C_rowOf (j := 4) (by omega) hC w9 hL (by omega) (by omega) ?_
          rw [if_pos q] at ih
          rw [nI_1]
          exact ih
        · rw [if_neg q] at ih
          exact ih
    · intro I1 L1 c1 s1 h1 K g
      have hR := h1.2.1
      refine w_X11_led_0 (by omega) (rqM (hR.g (by omega)) (by omega) (fun z => absurd hv z) fun _ => ?_)
      have fj := FM.th I1 0
      have t0 := thr0 (I := I1) (v := 0)
      have hR1 : RM w (dd_u I1 148 (upd (I1 148) 0 0)) := hR.of (dd_un (by decide))
      rw [hR.g (by omega), ld5_0]
      generalize dd_u I1 148 (upd (I1 148) 0 0) = J at *
      refine dd_lp (fun t => dd_Rn d m_X11_led (36, [.ref 148, .int (nI b), .int a2, .int (nI (ldA w b t).1), .int (ldA w b t).2, .int (ld5 w t)], [], sM Ln J L1 c1 s1) (dd_RI Ln c1 s1 K)) (w 9) ?_ ?_
      · refine w_X11_led_36 (by omega) ⟨fun _ => ⟨fun q => ?_, fun q => ?_⟩, fun z => absurd ?_ z⟩
        · rw [if_pos q] at g
          exact mqJ hR1 fj t0 rfl g
        · rw [if_neg q] at g
          exact mqJ hR1 fj t0 rfl g
        · unfold ld5
          rw [if_neg (Nat.lt_irrefl _)]
          decide
      · intro t ht ih
        rw [hs] at ih
        obtain ⟨l1, l2, l3, l4, l5⟩ := hL (w 9 - 1 - t) (by omega)
        have e5 : ld5 w t = nI (w 9 - 1 - t) := if_pos ht
        refine w_X11_led_36 (by omega) ?_
        rw [ld5_s ht, e5]
        refine ⟨fun z => absurd z (nI_pos (by omega)), fun _ => ?_⟩
        simp (disch := omega) only [nI_add, pk_mul, tn, nI_clamp, nI_eq, nI_leI, nI_ltI, pk_sub, pk_div, pk_rem, nI_nm, nI_nm2, nI_nle1, nI_nlt1, nI_le1, nI_lt1, li_0, li_1, li_2, li_3, li_4, li_5, li_6, li_7, li_8, li_9, li_10, li_11, li_12, li_13, li_14, li_15, li_16, li_17, li_18, li_19, li_20, li_21, li_22, li_23, li_24, li_25, li_26, li_27, li_28, li_29, li_30, li_31, li_32, li_33, li_34, li_35, li_36, li_37, li_38, li_39, li_40, li_41, li_42, li_43, li_44, li_45, li_46, li_47, li_48, li_49, li_50, li_51, li_52, li_53, li_54, li_55, li_56, li_57, li_58, li_59, li_60, li_61, li_62, li_63, li_64, li_65, li_66, li_67, li_68, li_69, li_75, li_97, li_99, li_100, li_101, li_102, li_120, li_122, li_127, li_139, li_187, li_222, li_223, li_224, li_225, li_226, li_255, li_256, li_299, li_400, li_465, li_522, li_523, li_571, li_849, li_999, li_1000, li_1100, li_1371, li_1372, li_1420, li_1984, li_2220, li_5742, li_6264, li_9999, li_10000, li_12345, li_32767, li_65536, li_1000000, li_252645135, li_858993459, li_1103515245, li_1431655765, Bool.true_eq_false, Bool.false_eq_true, true_and, and_true, true_implies, false_implies, implies_true, not_true_eq_false, not_false_eq_true, ne_eq, forall_const, ck_and, im_t, im_f, if_pos, if_neg, hR1.g]
        refine ⟨fun q => ?_, fun q => ?_⟩
        · rw [if_pos q] at ih
          exact ih
        · rw [if_neg q] at ih
          exact ih
  · refine PW.q h _ 0 (WR1 (e1 := 2) (o := some 2) (w_L_led_0 (by omega)) (Or.inr rfl) ?_) ?_
    · intro K T g1 g2
      exact w_X10_led_0 (by omega) (rqC hC.boys (fun _ => dd_qX (g2 2 rfl)) fun z => absurd z hv)
    · intro I1 L1 c1 s1 h1 K g
      have hR := h1.2.1
      refine w_X11_led_0 (by omega) ?_
      rw [dd_u_u, upd_uu]
      exact rqM (hR.g (by omega)) (by omega) (fun _ => mqT hR (by decide) g) fun z => absurd z hv
