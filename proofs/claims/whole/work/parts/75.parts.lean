/-! Questions: shifted, log -/
def shf (w : Nat → Nat) (p q k : Nat) : Bool := allN (fun b => decide (w (139 + 8 * q + b) = w (139 + 8 * p + (b + k) % 8))) 8
theorem C_isShifted {d Ln c s : Nat} {I : Nat → Nat → Int32} {L : Nat → Nat → Int64} {K : Int32 → (Nat → Nat → Int32) → (Nat → Nat → Int64) → Prop} {w : Nat → Nat} {p q k : Nat} (hd : 28 ≤ d) (hC : RC w I L) (hO : OKW w) (hp : p < 6) (hq : q < 6) (hk : k < 8) (kk : K (bI (shf w p q k)) I L) : dd_Ev d m_X8_isShifted [.ref 1, .int (nI p), .int (nI q), .int (nI k)] (sM Ln I L c s) (dd_RI Ln c s K) := by
  refine w_X8_isShifted_0 hd ?_
  have key : (∀ m, m < 0 → w (139 + 8 * q + m) = w (139 + 8 * p + (m + k) % 8)) → dd_Rn d m_X8_isShifted (3, [.ref 1, .int (nI p), .int (nI q), .int (nI k), .int (nI 0)], [], sM Ln I L c s) (dd_RI Ln c s K) := by
    refine dd_lp (fun i => (∀ m, m < i → w (139 + 8 * q + m) = w (139 + 8 * p + (m + k) % 8)) → dd_Rn d m_X8_isShifted (3, [.ref 1, .int (nI p), .int (nI q), .int (nI k), .int (nI i)], [], sM Ln I L c s) (dd_RI Ln c s K)) 8 ?_ ?_
    · intro al
      have e : shf w p q k = true := by
        unfold shf
        rw [allN_iff]
        exact fun i hi => decide_eq_true (al i hi)
      rw [e] at kk
      refine w_X8_isShifted_3 hd ?_
      rw [li_8, nI_leI (by omega) (by omega)]
      exact ⟨fun _ => dd_qi kk, fun z => absurd (Nat.le_refl _) z⟩
    · intro i hi ih al
      have b1 := hO.2.2.1 q hq i hi
      have b2 := hO.2.2.1 p hp ((i + k) % 8) (by omega)
      have e1 : 139 + (q * 8 + i) = 139 + 8 * q + i := by omega
      have e2 : 139 + (p * 8 + (i + k) % 8) = 139 + 8 * p + (i + k) % 8 := by omega
      refine w_X8_isShifted_3 hd ?_
      simp (disch := omega) only [nI_add, pk_mul, tn, nI_clamp, nI_eq, nI_leI, nI_ltI, pk_sub, pk_div, pk_rem, nI_nm, nI_nm2, nI_nle1, nI_nlt1, nI_le1, nI_lt1, li_0, li_1, li_2, li_3, li_4, li_5, li_6, li_7, li_8, li_9, li_10, li_11, li_12, li_13, li_14, li_15, li_16, li_17, li_18, li_19, li_20, li_21, li_22, li_23, li_24, li_25, li_26, li_27, li_28, li_29, li_30, li_31, li_32, li_33, li_34, li_35, li_36, li_37, li_38, li_39, li_40, li_41, li_42, li_43, li_44, li_45, li_46, li_47, li_48, li_49, li_50, li_51, li_52, li_53, li_54, li_55, li_56, li_57, li_58, li_59, li_60, li_61, li_62, li_63, li_64, li_65, li_66, li_67, li_68, li_69, li_75, li_97, li_99, li_100, li_101, li_102, li_120, li_122, li_127, li_139, li_187, li_222, li_223, li_224, li_225, li_226, li_255, li_256, li_299, li_400, li_465, li_522, li_523, li_571, li_849, li_999, li_1000, li_1100, li_1371, li_1372, li_1420, li_1984, li_2220, li_5742, li_6264, li_9999, li_10000, li_12345, li_32767, li_65536, li_1000000, li_252645135, li_858993459, li_1103515245, li_1431655765, dd_us, dd_un, dd_u_u, pk_us, pk_un, Bool.true_eq_false, Bool.false_eq_true, true_and, and_true, true_implies, false_implies, implies_true, not_true_eq_false, not_false_eq_true, ne_eq, forall_const, sdm, Nat.add_zero, Nat.zero_add, sb_m1n, nmn1, nmn2, nmn3, nmn4, nmn5, nmn6, bI_0n, bI_1n, ck_and, im_t, im_f, if_pos, if_neg, hC.note, e1, e2]
      refine ⟨fun z => ih (lt_s al z), fun z => ?_⟩
      have e : shf w p q k = false := by
        unfold shf
        cases hh : allN (fun b => decide (w (139 + 8 * q + b) = w (139 + 8 * p + (b + k) % 8))) 8 with
        | false => rfl
        | true => exact absurd (of_decide_eq_true ((allN_iff _ _).mp hh i hi)) z
      rw [e] at kk
      exact dd_qi kk
  exact key (fun m hm => absurd hm (Nat.not_lt_zero m))
theorem M_isShifted {d Ln c s : Nat} {I : Nat → Nat → Int32} {L : Nat → Nat → Int64} {K : Int32 → (Nat → Nat → Int32) → (Nat → Nat → Int64) → Prop} {w : Nat → Nat} {p q k : Nat} (hd : 28 ≤ d) (hR : RM w I) (hO : OKW w) (hp : p < 6) (hq : q < 6) (hk : k < 8) (kk : K (bI (shf w p q k)) I L) : dd_Ev d m_X11_isShifted [.ref 148, .int (nI p), .int (nI q), .int (nI k)] (sM Ln I L c s) (dd_RI Ln c s K) := by
  refine w_X11_isShifted_0 hd ?_
  refine dd_lp (fun i => dd_Rn d m_X11_isShifted (6, [.ref 148, .int (nI p), .int (nI q), .int (nI k), .int (bI (allN (fun b => decide (w (139 + 8 * q + b) = w (139 + 8 * p + (b + k) % 8))) i)), .int (nI i)], [], sM Ln I L c s) (dd_RI Ln c s K)) 8 ?_ ?_
  · refine w_X11_isShifted_6 hd ?_
    rw [li_8, nI_leI (by omega) (by omega)]
    exact ⟨fun _ => ⟨bI_01 _, dd_qi kk⟩, fun z => absurd (Nat.le_refl _) z⟩
  · intro i hi ih
    have b1 := hO.2.2.1 q hq i hi
    have b2 := hO.2.2.1 p hp ((i + k) % 8) (by omega)
    rw [allN] at ih
    refine w_X11_isShifted_6 hd ?_
    simp (disch := omega) only [nI_add, pk_mul, tn, nI_clamp, nI_eq, nI_leI, nI_ltI, pk_sub, pk_div, pk_rem, nI_nm, nI_nm2, nI_nle1, nI_nlt1, nI_le1, nI_lt1, li_0, li_1, li_2, li_3, li_4, li_5, li_6, li_7, li_8, li_9, li_10, li_11, li_12, li_13, li_14, li_15, li_16, li_17, li_18, li_19, li_20, li_21, li_22, li_23, li_24, li_25, li_26, li_27, li_28, li_29, li_30, li_31, li_32, li_33, li_34, li_35, li_36, li_37, li_38, li_39, li_40, li_41, li_42, li_43, li_44, li_45, li_46, li_47, li_48, li_49, li_50, li_51, li_52, li_53, li_54, li_55, li_56, li_57, li_58, li_59, li_60, li_61, li_62, li_63, li_64, li_65, li_66, li_67, li_68, li_69, li_75, li_97, li_99, li_100, li_101, li_102, li_120, li_122, li_127, li_139, li_187, li_222, li_223, li_224, li_225, li_226, li_255, li_256, li_299, li_400, li_465, li_522, li_523, li_571, li_849, li_999, li_1000, li_1100, li_1371, li_1372, li_1420, li_1984, li_2220, li_5742, li_6264, li_9999, li_10000, li_12345, li_32767, li_65536, li_1000000, li_252645135, li_858993459, li_1103515245, li_1431655765, dd_us, dd_un, dd_u_u, pk_us, pk_un, Bool.true_eq_false, Bool.false_eq_true, true_and, and_true, true_implies, false_implies, implies_true, not_true_eq_false, not_false_eq_true, ne_eq, forall_const, sdm, Nat.add_zero, Nat.zero_add, sb_m1n, nmn1, nmn2, nmn3, nmn4, nmn5, nmn6, bI_0n, bI_1n, ck_and, im_t, im_f, if_pos, if_neg, hR.g]
    refine ⟨fun z => ?_, fun z => ⟨fun y => ?_, fun y => ?_⟩⟩
    · rw [z, Bool.false_and] at ih
      exact ih
    · rw [Bool.not_eq_false] at z
      rw [z, decide_eq_true y] at ih
      exact ih
    · rw [decide_eq_false y, Bool.and_false] at ih
      exact ih
theorem A_shifted {d Ln c s : Nat} {I0 I : Nat → Nat → Int32} {L : Nat → Nat → Int64} {w : Nat → Nat} {im : Option (Nat → Nat)} {na od : Nat} {A : Nat → Nat → Nat} {tp : Nat → Nat} {tl : Nat} {fa : Option Nat} (hd : 60 ≤ d) (h : INV I0 w im na od A tp tl fa I L) (a a2 : Int32) : PW d m_L_shifted [.ref 0, .int a, .int a2, .ref 163] m_X11_shifted [.ref 148, .int a, .int a2] I0 Ln c s I L := by
  have hO := h.1.1
  have w0 := hO.1.1
  have hC := h.2.2.1
  by_cases hv : vld a (w 0) ∧ vld a2 (w 0)
  · obtain ⟨p, hp, rfl⟩ := vld_i (by omega) hv.1
    obtain ⟨q, hq, rfl⟩ := vld_i (by omega) hv.2
    by_cases hpq : p = q
    · subst hpq
      refine PW.q h _ 0 (WR2 (e1 := 2) (e2 := 0) (o := some 0) (w_L_shifted_0 (by omega)) (by decide) (Or.inr (Or.inr rfl)) ?_) ?_
      · intro K T g1 g2
        exact w_X10_shifted_0 (by omega) (rqC hC.parts (fun z => absurd hv.1 z) fun _ => rqC hC.parts (fun z => absurd hv.2 z) fun _ => ⟨fun _ => dd_qX (g2 0 rfl), fun z => absurd rfl z⟩)
      · intro I1 L1 c1 s1 h1 K g
        have hR := h1.2.1
        refine w_X11_shifted_0 (by omega) ?_
        simp only [dd_u_u, upd_uu]
        exact rqM (hR.g (by omega)) (by omega) (fun z => absurd hv.1 z) fun _ => rqM (hR.g (by omega)) (by omega) (fun z => absurd hv.2 z) fun _ => ⟨fun _ => mqT hR (by decide) g, fun z => absurd trivial z⟩
    · have ne : ¬ nI p = nI q := fun z => hpq ((nI_eq (by omega) (by omega)).mp z)
      refine PW.q h _ (oI ((frst (fun i => shf w p q (i + 1)) 7).map (· + 1))) (WR2 (e1 := 2) (e2 := 0) (o := none) (w_L_shifted_0 (by omega)) (by decide) (Or.inl rfl) ?_) ?_
      · intro K T g1 g2
        refine w_X10_shifted_0 (by omega) (rqC hC.parts (fun z => absurd hv.1 z) fun _ => rqC hC.parts (fun z => absurd hv.2 z) fun _ => ⟨fun z => absurd z ne, fun _ => ?_⟩)
        have key : (∀ m, m < 0 → shf w p q (m + 1) = false) → dd_Rn (d - 1) m_X10_shifted (18, [.ref 0, .int (nI p), .int (nI q), .int (nI (0 + 1))], [], sM Ln I L c s) (dd_TI Ln c s K T) := by
          refine dd_lp (fun i => (∀ m, m < i → shf w p q (m + 1) = false) → dd_Rn (d - 1) m_X10_shifted (18, [.ref 0, .int (nI p), .int (nI q), .int (nI (i + 1))], [], sM Ln I L c s) (dd_TI Ln c s K T)) 7 ?_ ?_
          · intro nf
            refine w_X10_shifted_18 (by omega) ?_
            rw [li_8, nI_leI (by omega) (by omega)]
            rw [frst_none nf] at g1
            exact ⟨fun _ => dd_qT (g1 rfl I L (FC.refl I L)), fun z => absurd (by omega) z⟩
          · intro i hi ih nf
            refine w_X10_shifted_18 (by omega) ?_
            rw [li_8, nI_leI (by omega) (by omega)]
            refine ⟨fun z => absurd z (by omega), fun _ => ?_⟩
            refine C_isShifted (by omega) hC hO (by omega) (by omega) (by omega) ?_
            simp only [nI_1, bI_0]
            refine ⟨fun z => ih (lt_s nf z), fun z => ?_⟩
            rw [Bool.not_eq_false] at z
            rw [frst_some (p := fun i => shf w p q (i + 1)) z nf hi] at g1
            exact dd_qT (g1 rfl I L (FC.refl I L))
        exact key (fun m hm => absurd hm (Nat.not_lt_zero m))
      · intro I1 L1 c1 s1 h1 K g
        have hR := h1.2.1
        refine w_X11_shifted_0 (by omega) (rqM (hR.g (by omega)) (by omega) (fun z => absurd hv.1 z) fun _ => rqM (hR.g (by omega)) (by omega) (fun z => absurd hv.2 z) fun _ => ⟨fun z => absurd z ne, fun _ => ?_⟩)
        have fj := FM.th I1 0
        have t0 := thr0 (I := I1) (v := 0)
        have hR1 : RM w (dd_u I1 148 (upd (I1 148) 0 0)) := hR.of (dd_un (by decide))
        generalize dd_u I1 148 (upd (I1 148) 0 0) = J at *
        have key : (∀ m, m < 0 → shf w p q (m + 1) = false) → dd_Rn d m_X11_shifted (56, [.ref 148, .int (nI p), .int (nI q), .int (nI (0 + 1))], [], sM Ln J L1 c1 s1) (dd_RI Ln c1 s1 K) := by
          refine dd_lp (fun i => (∀ m, m < i → shf w p q (m + 1) = false) → dd_Rn d m_X11_shifted (56, [.ref 148, .int (nI p), .int (nI q), .int (nI (i + 1))], [], sM Ln J L1 c1 s1) (dd_RI Ln c1 s1 K)) 7 ?_ ?_
          · intro nf
            refine w_X11_shifted_56 (by omega) ?_
            rw [li_8, nI_leI (by omega) (by omega)]
            rw [frst_none nf] at g
            exact ⟨fun _ => mqJ hR1 fj t0 rfl g, fun z => absurd (by omega) z⟩
          · intro i hi ih nf
            refine w_X11_shifted_56 (by omega) ?_
            rw [li_8, nI_leI (by omega) (by omega)]
            refine ⟨fun z => absurd z (by omega), fun _ => ?_⟩
            refine M_isShifted (by omega) hR1 hO (by omega) (by omega) (by omega) ?_
            simp only [nI_1, bI_0]
            refine ⟨fun z => ih (lt_s nf z), fun z => ?_⟩
            rw [Bool.not_eq_false] at z
            rw [frst_some (p := fun i => shf w p q (i + 1)) z nf hi] at g
            exact mqJ hR1 fj t0 rfl g
        exact key (fun m hm => absurd hm (Nat.not_lt_zero m))
  · refine PW.q h _ 0 (WR2 (e1 := 2) (e2 := 0) (o := some 2) (w_L_shifted_0 (by omega)) (by decide) (Or.inr (Or.inl rfl)) ?_) ?_
    · intro K T g1 g2
      exact w_X10_shifted_0 (by omega) (rqC hC.parts (fun _ => dd_qX (g2 2 rfl)) fun z => rqC hC.parts (fun _ => dd_qX (g2 2 rfl)) fun z2 => absurd ⟨z, z2⟩ hv)
    · intro I1 L1 c1 s1 h1 K g
      have hR := h1.2.1
      refine w_X11_shifted_0 (by omega) ?_
      simp only [dd_u_u, upd_uu]
      exact rqM (hR.g (by omega)) (by omega) (fun _ => mqT hR (by decide) g) fun z => rqM (hR.g (by omega)) (by omega) (fun _ => mqT hR (by decide) g) fun z2 => absurd ⟨z, z2⟩ hv
/-- of a row of the log -/
theorem pck_dec {w : Nat → Nat} (h : okL w) {a : Nat} (ha : a < w 9) : pck w a < 2 ^ 31 ∧ pck w a / 8192 = w (222 + 5 * a) ∧ pck w a / 1024 % 8 = w (222 + 5 * a + 1) ∧ pck w a / 128 % 8 = w (222 + 5 * a + 2) ∧ pck w a / 64 % 2 = w (222 + 5 * a + 3) ∧ pck w a % 64 = w (222 + 5 * a + 4) := by
  obtain ⟨h1, h2, h3, h4, h5⟩ := h a ha
  unfold pck
  refine ⟨?_, ?_, ?_, ?_, ?_, ?_⟩ <;> omega
theorem C_rowOf {d Ln c s : Nat} {I : Nat → Nat → Int32} {L : Nat → Nat → Int64} {K : Int32 → (Nat → Nat → Int32) → (Nat → Nat → Int64) → Prop} {w : Nat → Nat} {a j : Nat} (hd : 28 ≤ d) (hC : RC w I L) (h9 : w 9 ≤ 60) (hL : okL w) (ha : a < w 9) (hj : j < 5) (k : K (nI (w (222 + 5 * a + j))) I L) : dd_Ev d m_X8_rowOf [.ref 1, .int (nI a), .int (nI j)] (sM Ln I L c s) (dd_RI Ln c s K) := by
  obtain ⟨p0, p1, p2, p3, p4, p5⟩ := pck_dec hL ha
  refine w_X8_rowOf_0 hd ?_
  have er : nI (w 9) - 1 - nI a = nI (w 9 - 1 - a) := by rw [li_1, pk_sub (by omega), pk_sub (by omega)]
  have et : tn (nI (w 9 - 1 - a)) = w 9 - 1 - a := nI_clamp (by omega)
  rw [hC.rows, er, et, hC.row ha]
  refine ⟨fun z => absurd z (nI_pos (by omega)), fun _ => ⟨fun _ => ⟨⟨nI_pos' (by omega), by omega⟩, ?_⟩, fun z => absurd (nI_lt ha (by omega)) z⟩⟩
  have e : j = 0 ∨ j = 1 ∨ j = 2 ∨ j = 3 ∨ j = 4 := by omega
  rcases e with rfl | rfl | rfl | rfl | rfl
  · refine ⟨fun z => absurd z (by decide), fun _ => ?_, fun z => absurd z (by decide), fun z => absurd z (by decide), fun z => absurd z (by decide)⟩
    rw [pk_shrN p0 _ 13 (by decide)]
    rw [show (2 : Nat) ^ 13 = 8192 from rfl, p1]
    exact dd_qi k
  · refine ⟨fun z => absurd z (by decide), fun z => absurd z (by decide), fun _ => ?_, fun z => absurd z (by decide), fun z => absurd z (by decide)⟩
    rw [pk_shrN p0 _ 10 (by decide), and7 (by omega), show (2 : Nat) ^ 10 = 1024 from rfl, p2]
    exact dd_qi k
  · refine ⟨fun z => absurd z (by decide), fun z => absurd z (by decide), fun z => absurd z (by decide), fun _ => ?_, fun z => absurd z (by decide)⟩
    rw [pk_shrN p0 _ 7 (by decide), and7 (by omega), show (2 : Nat) ^ 7 = 128 from rfl, p3]
    exact dd_qi k
  · refine ⟨fun z => absurd z (by decide), fun z => absurd z (by decide), fun z => absurd z (by decide), fun z => absurd z (by decide), fun _ => ?_⟩
    rw [pk_shrN p0 _ 6 (by decide), pk_andN (by omega) 1 rfl, show (2 : Nat) ^ 6 = 64 from rfl, show (2 : Nat) ^ 1 = 2 from rfl, p4]
    exact dd_qi k
  · refine ⟨fun _ => ?_, fun z => absurd z (by decide), fun z => absurd z (by decide), fun z => absurd z (by decide), fun z => absurd z (by decide)⟩
    rw [pk_andN (by omega) 6 rfl, show (2 : Nat) ^ 6 = 64 from rfl, p5]
    exact dd_qi k
