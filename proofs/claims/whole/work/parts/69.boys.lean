/-! Questions: odds, boy -/
def odA (w : Nat → Nat) : Nat → Nat := lpf (fun _ x => x * (100 - w 6) / 100) 10000
theorem odA_le {w : Nat → Nat} (h : w 6 ≤ 100) : ∀ i, odA w i ≤ 10000 := by
  intro i
  induction i with
  | zero => exact Nat.le_refl _
  | succ i ih =>
    have e : odA w (i + 1) = odA w i * (100 - w 6) / 100 := rfl
    rw [e]
    have h1 : odA w i * (100 - w 6) ≤ 10000 * 100 := Nat.mul_le_mul ih (by omega)
    omega
theorem odA_m {w : Nat → Nat} (h : w 6 ≤ 100) (i : Nat) : odA w i * (100 - w 6) < 2 ^ 31 := by
  have h1 : odA w i * (100 - w 6) ≤ 10000 * 100 := Nat.mul_le_mul (odA_le h i) (by omega)
  omega
theorem A_odds {d Ln c s : Nat} {I0 I : Nat → Nat → Int32} {L : Nat → Nat → Int64} {w : Nat → Nat} {im : Option (Nat → Nat)} {na od : Nat} {A : Nat → Nat → Nat} {tp : Nat → Nat} {tl : Nat} {fa : Option Nat} (hd : 60 ≤ d) (h : INV I0 w im na od A tp tl fa I L) (a a2 : Int32) : PW d m_L_odds [.ref 0, .int a, .int a2, .ref 163] m_X11_odds [.ref 148, .int a, .int a2] I0 Ln c s I L := by
  have hO := h.1.1
  have w1 := hO.1.2.1
  have w6 := hO.1.2.2.2.2.2.1
  have hC := h.2.2.1
  have hk : (133 : Nat) = 133 ∨ (133 : Nat) = 136 := Or.inl rfl
  by_cases hv : vld a (w 1)
  · obtain ⟨b, hb, rfl⟩ := vld_i (by omega) hv
    have b4 := (hO.2.2.2.1 b (by omega)).2.2.2.2.1
    by_cases hv2 : vld a2 5
    · obtain ⟨n, hn, rfl⟩ := vld_i (by omega) hv2
      refine PW.q h _ (nI (if w (187 + 5 * b + 3) = 1 ∨ hrB w b (ntB w b) = true then 10000 else odA w n)) (WR2 (e1 := 2) (e2 := 0) (o := none) (w_L_odds_0 (by omega)) (by decide) (Or.inl rfl) ?_) ?_
      · intro K T g1 g2
        refine w_X10_odds_0 (by omega) (rqC hC.boys (fun z => absurd hv z) fun _ => rqL (m := 4) rfl (by omega) (fun z => absurd hv2 z) fun _ => ?_)
        refine C_isIn (by omega) hC (by omega) ?_
        simp only [bI_0]
        refine ⟨fun q => ?_, fun q => ?_⟩
        · have q' := of_decide_eq_false q
          refine C_hearsNowB (by omega) hC hO h.2.2.2.1 (by omega) fun I1 f1 => ?_
          simp only [bI_0]
          unfold hrN
          rw [q, Bool.not_false, Bool.true_and]
          refine ⟨fun q2 => ?_, fun q2 => ?_⟩
          · rw [if_neg (fun z => z.elim q' (fun y => by rw [q2] at y; cases y))] at g1
            have c1 := hC.fr f1 (kA hk)
            refine dd_lp (fun i => dd_Rn (d - 1) m_X10_odds (40, [.ref 0, .int (nI b), .int (nI n), .int (nI (odA w i)), .int (nI i)], [], sM Ln I1 L c s) (dd_TI Ln c s K T)) n ?_ ?_
            · refine w_X10_odds_40 (by omega) ?_
              rw [nI_leI (by omega) (by omega)]
              exact ⟨fun _ => dd_qT (g1 rfl I1 L (FC.v hk f1)), fun z => absurd (Nat.le_refl _) z⟩
            · intro i hi ih
              have om := odA_m w6 i
              have e : odA w (i + 1) = odA w i * (100 - w 6) / 100 := rfl
              rw [e] at ih
              refine w_X10_odds_40 (by omega) ?_
              rw [c1.stray]
              simp (disch := omega) only [nI_add, pk_mul, tn, nI_clamp, nI_eq, nI_leI, nI_ltI, pk_sub, pk_div, pk_rem, nI_nm, nI_nm2, nI_nle1, nI_nlt1, nI_le1, nI_lt1, li_0, li_1, li_2, li_3, li_4, li_5, li_6, li_7, li_8, li_9, li_10, li_11, li_12, li_13, li_14, li_15, li_16, li_17, li_18, li_19, li_20, li_21, li_22, li_23, li_24, li_25, li_26, li_27, li_28, li_29, li_30, li_31, li_32, li_33, li_34, li_35, li_36, li_37, li_38, li_39, li_40, li_41, li_42, li_43, li_44, li_45, li_46, li_47, li_48, li_49, li_50, li_51, li_52, li_53, li_54, li_55, li_56, li_57, li_58, li_59, li_60, li_61, li_62, li_63, li_64, li_65, li_66, li_67, li_68, li_69, li_75, li_97, li_99, li_100, li_101, li_102, li_120, li_122, li_127, li_139, li_187, li_222, li_223, li_224, li_225, li_226, li_255, li_256, li_299, li_400, li_465, li_522, li_523, li_571, li_849, li_999, li_1000, li_1100, li_1371, li_1372, li_1420, li_1984, li_2220, li_5742, li_6264, li_9999, li_10000, li_12345, li_32767, li_65536, li_1000000, li_252645135, li_858993459, li_1103515245, li_1431655765, Bool.true_eq_false, Bool.false_eq_true, true_and, and_true, true_implies, false_implies, implies_true, not_true_eq_false, not_false_eq_true, ne_eq, forall_const, ck_and, im_t, im_f, if_pos, if_neg]
              exact ih
          · rw [Bool.not_eq_false] at q2
            rw [if_pos (Or.inr q2)] at g1
            exact dd_qT (g1 rfl I1 L (FC.v hk f1))
        · rw [Bool.not_eq_false] at q
          rw [if_pos (Or.inl (of_decide_eq_true q))] at g1
          exact dd_qT (g1 rfl I L (FC.refl I L))
      · intro I1 L1 c1 s1 h1 K g
        have hR := h1.2.1
        refine w_X11_odds_0 (by omega) (rqM (hR.g (by omega)) (by omega) (fun z => absurd hv z) fun _ => rqN (m := 4) rfl (by omega) (fun z => absurd hv2 z) fun _ => ?_)
        have fj := FM.th I1 0
        have t0 := thr0 (I := I1) (v := 0)
        have hR1 : RM w (dd_u I1 148 (upd (I1 148) 0 0)) := hR.of (dd_un (by decide))
        generalize dd_u I1 148 (upd (I1 148) 0 0) = J at *
        simp (disch := omega) only [nI_add, pk_mul, tn, nI_clamp, nI_eq, nI_leI, nI_ltI, pk_sub, pk_div, pk_rem, nI_nm, nI_nm2, nI_nle1, nI_nlt1, nI_le1, nI_lt1, li_0, li_1, li_2, li_3, li_4, li_5, li_6, li_7, li_8, li_9, li_10, li_11, li_12, li_13, li_14, li_15, li_16, li_17, li_18, li_19, li_20, li_21, li_22, li_23, li_24, li_25, li_26, li_27, li_28, li_29, li_30, li_31, li_32, li_33, li_34, li_35, li_36, li_37, li_38, li_39, li_40, li_41, li_42, li_43, li_44, li_45, li_46, li_47, li_48, li_49, li_50, li_51, li_52, li_53, li_54, li_55, li_56, li_57, li_58, li_59, li_60, li_61, li_62, li_63, li_64, li_65, li_66, li_67, li_68, li_69, li_75, li_97, li_99, li_100, li_101, li_102, li_120, li_122, li_127, li_139, li_187, li_222, li_223, li_224, li_225, li_226, li_255, li_256, li_299, li_400, li_465, li_522, li_523, li_571, li_849, li_999, li_1000, li_1100, li_1371, li_1372, li_1420, li_1984, li_2220, li_5742, li_6264, li_9999, li_10000, li_12345, li_32767, li_65536, li_1000000, li_252645135, li_858993459, li_1103515245, li_1431655765, Bool.true_eq_false, Bool.false_eq_true, true_and, and_true, true_implies, false_implies, implies_true, not_true_eq_false, not_false_eq_true, ne_eq, forall_const, ck_and, im_t, im_f, if_pos, if_neg, hR.g]
        have stop : ∀ I', RM w I' → FM I1 I' → I' 148 0 = 0 → (w (187 + 5 * b + 3) = 1 ∨ hrB w b (ntB w b) = true) → dd_Rn d m_X11_odds (72, [.ref 148, .int (nI b), .int (nI n), .int (nI 10000), .int (nI 1), .int (nI 0)], [], sM Ln I' L1 c1 s1) (dd_RI Ln c1 s1 K) := by
          intro I' r f t q
          rw [if_pos q] at g
          refine w_X11_odds_72 (by omega) ⟨fun _ => mqJ r f t rfl g, fun _ => ⟨fun z => absurd z (by decide), fun _ => mqJ r f t rfl g⟩⟩
        refine ⟨fun q => stop J hR1 fj t0 (Or.inl q), fun q => ?_⟩
        refine M_hears (by omega) hR1 hO (by omega) fun I2 r2 f2 => ?_
        have F2 : FM I1 I2 := fj.trans (FM.fr f2 (by decide) (by decide))
        have t2 : I2 148 0 = 0 := by rw [f2.2 0 (by decide)]; exact t0
        simp only [bI_0n]
        refine ⟨fun q2 => ?_, fun q2 => ?_⟩
        · rw [if_neg (fun z => z.elim q (fun y => by rw [q2] at y; cases y))] at g
          refine dd_lp (fun i => dd_Rn d m_X11_odds (72, [.ref 148, .int (nI b), .int (nI n), .int (nI (odA w i)), .int (nI 0), .int (nI i)], [], sM Ln I2 L1 c1 s1) (dd_RI Ln c1 s1 K)) n ?_ ?_
          · refine w_X11_odds_72 (by omega) ?_
            rw [nI_leI (by omega) (by omega)]
            exact ⟨fun _ => mqJ r2 F2 t2 rfl g, fun z => absurd (Nat.le_refl _) z⟩
          · intro i hi ih
            have om := odA_m w6 i
            have e : odA w (i + 1) = odA w i * (100 - w 6) / 100 := rfl
            rw [e] at ih
            refine w_X11_odds_72 (by omega) ?_
            rw [r2.g (by omega), nI_leI (by omega) (by omega)]
            refine ⟨fun z => absurd z (by omega), fun _ => ⟨fun _ => ?_, fun z => absurd rfl z⟩⟩
            rw [li_100, nI_1, pk_sub (by omega), pk_mul, pk_div om (by omega) (by omega)]
            exact ih
        · rw [Bool.not_eq_false] at q2
          exact stop I2 r2 F2 t2 (Or.inr q2)
    · refine PW.q h _ 0 (WR2 (e1 := 2) (e2 := 0) (o := some 0) (w_L_odds_0 (by omega)) (by decide) (Or.inr (Or.inr rfl)) ?_) ?_
      · intro K T g1 g2
        exact w_X10_odds_0 (by omega) (rqC hC.boys (fun z => absurd hv z) fun _ => rqL (m := 4) rfl (by omega) (fun _ => dd_qX (g2 0 rfl)) fun z => absurd z hv2)
      · intro I1 L1 c1 s1 h1 K g
        have hR := h1.2.1
        refine w_X11_odds_0 (by omega) ?_
        simp only [dd_u_u, upd_uu]
        exact rqM (hR.g (by omega)) (by omega) (fun z => absurd hv z) fun _ => rqN (m := 4) rfl (by omega) (fun _ => mqT hR (by decide) g) fun z => absurd z hv2
  · refine PW.q h _ 0 (WR2 (e1 := 2) (e2 := 0) (o := some 2) (w_L_odds_0 (by omega)) (by decide) (Or.inr (Or.inl rfl)) ?_) ?_
    · intro K T g1 g2
      exact w_X10_odds_0 (by omega) (rqC hC.boys (fun _ => dd_qX (g2 2 rfl)) fun z => absurd z hv)
    · intro I1 L1 c1 s1 h1 K g
      have hR := h1.2.1
      refine w_X11_odds_0 (by omega) ?_
      simp only [dd_u_u, upd_uu]
      exact rqM (hR.g (by omega)) (by omega) (fun _ => mqT hR (by decide) g) fun z => absurd z hv
/-- what is bad of all -/
def badA (w : Nat → Nat) : Nat → Nat := lpf (fun b x => x + w (187 + 5 * b + 4)) 0
theorem badA_le {w : Nat → Nat} (hO : OKW w) : ∀ i, i ≤ 6 → badA w i ≤ 99 * i := by
  intro i
  induction i with
  | zero => intro _; exact Nat.le_refl _
  | succ i ih =>
    intro hi
    have e : badA w (i + 1) = badA w i + w (187 + 5 * i + 4) := rfl
    have h1 := ih (by omega)
    have h2 := (hO.2.2.2.1 i (by omega)).2.2.2.2.2
    omega
theorem C_badOfAll {d Ln c s : Nat} {I : Nat → Nat → Int32} {L : Nat → Nat → Int64} {K : Int32 → (Nat → Nat → Int32) → (Nat → Nat → Int64) → Prop} {w : Nat → Nat} (hd : 28 ≤ d) (hC : RC w I L) (hO : OKW w) (k : K (nI (badA w (w 1))) I L) : dd_Ev d m_X8_badOfAll [.ref 1] (sM Ln I L c s) (dd_RI Ln c s K) := by
  have w1 := hO.1.2.1
  refine w_X8_badOfAll_0 hd ?_
  refine dd_lp (fun i => dd_Rn d m_X8_badOfAll (4, [.ref 1, .int (nI (badA w i)), .int (nI i)], [], sM Ln I L c s) (dd_RI Ln c s K)) (w 1) ?_ ?_
  · refine w_X8_badOfAll_4 hd ?_
    rw [hC.boys, nI_leI (by omega) (by omega)]
    exact ⟨fun _ => dd_qi k, fun q => absurd (Nat.le_refl _) q⟩
  · intro i hi ih
    have e : badA w (i + 1) = badA w i + w (187 + 5 * i + 4) := rfl
    rw [e] at ih
    refine w_X8_badOfAll_4 hd ?_
    simp (disch := omega) only [nI_add, pk_mul, tn, nI_clamp, nI_eq, nI_leI, nI_ltI, pk_sub, pk_div, pk_rem, nI_nm, nI_nm2, nI_nle1, nI_nlt1, nI_le1, nI_lt1, li_0, li_1, li_2, li_3, li_4, li_5, li_6, li_7, li_8, li_9, li_10, li_11, li_12, li_13, li_14, li_15, li_16, li_17, li_18, li_19, li_20, li_21, li_22, li_23, li_24, li_25, li_26, li_27, li_28, li_29, li_30, li_31, li_32, li_33, li_34, li_35, li_36, li_37, li_38, li_39, li_40, li_41, li_42, li_43, li_44, li_45, li_46, li_47, li_48, li_49, li_50, li_51, li_52, li_53, li_54, li_55, li_56, li_57, li_58, li_59, li_60, li_61, li_62, li_63, li_64, li_65, li_66, li_67, li_68, li_69, li_75, li_97, li_99, li_100, li_101, li_102, li_120, li_122, li_127, li_139, li_187, li_222, li_223, li_224, li_225, li_226, li_255, li_256, li_299, li_400, li_465, li_522, li_523, li_571, li_849, li_999, li_1000, li_1100, li_1371, li_1372, li_1420, li_1984, li_2220, li_5742, li_6264, li_9999, li_10000, li_12345, li_32767, li_65536, li_1000000, li_252645135, li_858993459, li_1103515245, li_1431655765, dd_us, dd_un, dd_u_u, pk_us, pk_un, Bool.true_eq_false, Bool.false_eq_true, true_and, and_true, true_implies, false_implies, implies_true, not_true_eq_false, not_false_eq_true, ne_eq, forall_const, sdm, Nat.add_zero, Nat.zero_add, sb_m1n, nmn1, nmn2, nmn3, nmn4, nmn5, nmn6, bI_0n, bI_1n, ck_and, im_t, im_f, if_pos, if_neg, hC.boys, hC.bad]
    exact ih
theorem M_badOfAll {d Ln c s : Nat} {I : Nat → Nat → Int32} {L : Nat → Nat → Int64} {K : Int32 → (Nat → Nat → Int32) → (Nat → Nat → Int64) → Prop} {w : Nat → Nat} (hd : 28 ≤ d) (hR : RM w I) (hO : OKW w) (k : K (nI (badA w (w 1))) I L) : dd_Ev d m_X11_badOfAll [.ref 148] (sM Ln I L c s) (dd_RI Ln c s K) := by
  have w1 := hO.1.2.1
  refine w_X11_badOfAll_0 hd ?_
  refine dd_lp (fun i => dd_Rn d m_X11_badOfAll (4, [.ref 148, .int (nI (badA w i)), .int (nI i)], [], sM Ln I L c s) (dd_RI Ln c s K)) (w 1) ?_ ?_
  · refine w_X11_badOfAll_4 hd ?_
    rw [hR.g (by omega), nI_leI (by omega) (by omega)]
    exact ⟨fun _ => dd_qi k, fun q => absurd (Nat.le_refl _) q⟩
  · intro i hi ih
    have e : badA w (i + 1) = badA w i + w (187 + 5 * i + 4) := rfl
    rw [e] at ih
    refine w_X11_badOfAll_4 hd ?_
    simp (disch := omega) only [nI_add, pk_mul, tn, nI_clamp, nI_eq, nI_leI, nI_ltI, pk_sub, pk_div, pk_rem, nI_nm, nI_nm2, nI_nle1, nI_nlt1, nI_le1, nI_lt1, li_0, li_1, li_2, li_3, li_4, li_5, li_6, li_7, li_8, li_9, li_10, li_11, li_12, li_13, li_14, li_15, li_16, li_17, li_18, li_19, li_20, li_21, li_22, li_23, li_24, li_25, li_26, li_27, li_28, li_29, li_30, li_31, li_32, li_33, li_34, li_35, li_36, li_37, li_38, li_39, li_40, li_41, li_42, li_43, li_44, li_45, li_46, li_47, li_48, li_49, li_50, li_51, li_52, li_53, li_54, li_55, li_56, li_57, li_58, li_59, li_60, li_61, li_62, li_63, li_64, li_65, li_66, li_67, li_68, li_69, li_75, li_97, li_99, li_100, li_101, li_102, li_120, li_122, li_127, li_139, li_187, li_222, li_223, li_224, li_225, li_226, li_255, li_256, li_299, li_400, li_465, li_522, li_523, li_571, li_849, li_999, li_1000, li_1100, li_1371, li_1372, li_1420, li_1984, li_2220, li_5742, li_6264, li_9999, li_10000, li_12345, li_32767, li_65536, li_1000000, li_252645135, li_858993459, li_1103515245, li_1431655765, dd_us, dd_un, dd_u_u, pk_us, pk_un, Bool.true_eq_false, Bool.false_eq_true, true_and, and_true, true_implies, false_implies, implies_true, not_true_eq_false, not_false_eq_true, ne_eq, forall_const, sdm, Nat.add_zero, Nat.zero_add, sb_m1n, nmn1, nmn2, nmn3, nmn4, nmn5, nmn6, bI_0n, bI_1n, ck_and, im_t, im_f, if_pos, if_neg, hR.g]
    exact ih
def shr (w : Nat → Nat) (b : Nat) : Nat := if badA w (w 1) = 0 then 0 else 100 * w (187 + 5 * b + 4) / badA w (w 1)
theorem C_shareOf {d Ln c s : Nat} {I : Nat → Nat → Int32} {L : Nat → Nat → Int64} {K : Int32 → (Nat → Nat → Int32) → (Nat → Nat → Int64) → Prop} {w : Nat → Nat} {b : Nat} (hd : 30 ≤ d) (hC : RC w I L) (hO : OKW w) (hb : b < 6) (k : K (nI (shr w b)) I L) : dd_Ev d m_X10_shareOf [.ref 0, .int (nI b)] (sM Ln I L c s) (dd_RI Ln c s K) := by
  have w1 := hO.1.2.1
  have b5 := (hO.2.2.2.1 b (by omega)).2.2.2.2.2
  have bl := badA_le hO (w 1) w1
  refine w_X10_shareOf_0 (by omega) ?_
  refine C_badOfAll (by omega) hC hO ?_
  unfold shr at k
  simp (disch := omega) only [nI_add, pk_mul, tn, nI_clamp, nI_eq, nI_leI, nI_ltI, pk_sub, pk_div, pk_rem, nI_nm, nI_nm2, nI_nle1, nI_nlt1, nI_le1, nI_lt1, li_0, li_1, li_2, li_3, li_4, li_5, li_6, li_7, li_8, li_9, li_10, li_11, li_12, li_13, li_14, li_15, li_16, li_17, li_18, li_19, li_20, li_21, li_22, li_23, li_24, li_25, li_26, li_27, li_28, li_29, li_30, li_31, li_32, li_33, li_34, li_35, li_36, li_37, li_38, li_39, li_40, li_41, li_42, li_43, li_44, li_45, li_46, li_47, li_48, li_49, li_50, li_51, li_52, li_53, li_54, li_55, li_56, li_57, li_58, li_59, li_60, li_61, li_62, li_63, li_64, li_65, li_66, li_67, li_68, li_69, li_75, li_97, li_99, li_100, li_101, li_102, li_120, li_122, li_127, li_139, li_187, li_222, li_223, li_224, li_225, li_226, li_255, li_256, li_299, li_400, li_465, li_522, li_523, li_571, li_849, li_999, li_1000, li_1100, li_1371, li_1372, li_1420, li_1984, li_2220, li_5742, li_6264, li_9999, li_10000, li_12345, li_32767, li_65536, li_1000000, li_252645135, li_858993459, li_1103515245, li_1431655765, dd_us, dd_un, dd_u_u, pk_us, pk_un, Bool.true_eq_false, Bool.false_eq_true, true_and, and_true, true_implies, false_implies, implies_true, not_true_eq_false, not_false_eq_true, ne_eq, forall_const, sdm, Nat.add_zero, Nat.zero_add, sb_m1n, nmn1, nmn2, nmn3, nmn4, nmn5, nmn6, bI_0n, bI_1n, ck_and, im_t, im_f, if_pos, if_neg, hC.bad]
  refine ⟨fun q => ?_, fun q => ⟨q, ?_⟩⟩
  · rw [if_pos q] at k
    exact dd_qi k
  · rw [if_neg q] at k
    rw [pk_div (by omega) (by omega) (by omega)]
    exact dd_qi k
theorem M_shareOf {d Ln c s : Nat} {I : Nat → Nat → Int32} {L : Nat → Nat → Int64} {K : Int32 → (Nat → Nat → Int32) → (Nat → Nat → Int64) → Prop} {w : Nat → Nat} {b : Nat} (hd : 30 ≤ d) (hR : RM w I) (hO : OKW w) (hb : b < 6) (k : K (nI (shr w b)) I L) : dd_Ev d m_X11_shareOf [.ref 148, .int (nI b)] (sM Ln I L c s) (dd_RI Ln c s K) := by
  have w1 := hO.1.2.1
  have b5 := (hO.2.2.2.1 b (by omega)).2.2.2.2.2
  have bl := badA_le hO (w 1) w1
  refine w_X11_shareOf_0 (by omega) ?_
  refine M_badOfAll (by omega) hR hO ?_
  unfold shr at k
  simp (disch := omega) only [nI_add, pk_mul, tn, nI_clamp, nI_eq, nI_leI, nI_ltI, pk_sub, pk_div, pk_rem, nI_nm, nI_nm2, nI_nle1, nI_nlt1, nI_le1, nI_lt1, li_0, li_1, li_2, li_3, li_4, li_5, li_6, li_7, li_8, li_9, li_10, li_11, li_12, li_13, li_14, li_15, li_16, li_17, li_18, li_19, li_20, li_21, li_22, li_23, li_24, li_25, li_26, li_27, li_28, li_29, li_30, li_31, li_32, li_33, li_34, li_35, li_36, li_37, li_38, li_39, li_40, li_41, li_42, li_43, li_44, li_45, li_46, li_47, li_48, li_49, li_50, li_51, li_52, li_53, li_54, li_55, li_56, li_57, li_58, li_59, li_60, li_61, li_62, li_63, li_64, li_65, li_66, li_67, li_68, li_69, li_75, li_97, li_99, li_100, li_101, li_102, li_120, li_122, li_127, li_139, li_187, li_222, li_223, li_224, li_225, li_226, li_255, li_256, li_299, li_400, li_465, li_522, li_523, li_571, li_849, li_999, li_1000, li_1100, li_1371, li_1372, li_1420, li_1984, li_2220, li_5742, li_6264, li_9999, li_10000, li_12345, li_32767, li_65536, li_1000000, li_252645135, li_858993459, li_1103515245, li_1431655765, dd_us, dd_un, dd_u_u, pk_us, pk_un, Bool.true_eq_false, Bool.false_eq_true, true_and, and_true, true_implies, false_implies, implies_true, not_true_eq_false, not_false_eq_true, ne_eq, forall_const, sdm, Nat.add_zero, Nat.zero_add, sb_m1n, nmn1, nmn2, nmn3, nmn4, nmn5, nmn6, bI_0n, bI_1n, ck_and, im_t, im_f, if_pos, if_neg, hR.g]
  refine ⟨fun q => ?_, fun q => ⟨q, ?_⟩⟩
  · rw [if_pos q] at k
    exact dd_qi k
  · rw [if_neg q] at k
    rw [pk_div (by omega) (by omega) (by omega)]
    exact dd_qi k
