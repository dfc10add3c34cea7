/-! The model: hearing, going, beats -/
theorem ite_n {p : Prop} [Decidable p] (a b : Nat) : (if p then nI a else nI b) = nI (if p then a else b) := by split <;> rfl
theorem nI_mod (n : Nat) : nI n = nI (n % 2 ^ 32) := by
  apply Int32.toBitVec_inj.mp
  show BitVec.ofNat 32 n = BitVec.ofNat 32 (n % 2 ^ 32)
  apply BitVec.eq_of_toNat_eq
  simp
theorem dd_sl {a b e g : Nat} (ha : a < 2 ^ 28) (hb : b < 2 ^ 28) (he : e < 2 ^ 28) (hg : g < 2 ^ 28) : (nI a - nI b - nI e < nI g) = (a < g + b + e) := by
  apply propext
  rw [Int32.sub_sub, nI_add, Int32.lt_iff_toInt_lt, pk_sub_toInt (by omega) (by omega), nI_toInt (by omega)]
  omega
theorem sar16 {n : Nat} (h : n < 2 ^ 32) : (nI n >>> ((16 : Int32) &&& 31)) &&& 32767 = nI (n / 65536 % 32768) := by
  rw [pk_and _ 15 rfl]
  have h1 := pk_shr (nI n) ((16 : Int32) &&& 31) 16 (by decide)
  have h2 := pk_tn h
  congr 1
  have e1 : ∀ x : Int32, x.toInt = if 2 * x.toBitVec.toNat < 2 ^ 32 then (x.toBitVec.toNat : Int) else (x.toBitVec.toNat : Int) - 2 ^ 32 := fun x => BitVec.toInt_eq_toNat_cond x.toBitVec
  rw [e1, e1 (nI n), h2] at h1
  have lt := (nI n >>> ((16 : Int32) &&& 31)).toBitVec.isLt
  rw [Int.shiftRight_eq_div_pow] at h1
  generalize (nI n >>> ((16 : Int32) &&& 31)).toBitVec.toNat = y at *
  split at h1 <;> split at h1 <;> omega
theorem M_sumOf {d Ln c s : Nat} {I : Nat → Nat → Int32} {L : Nat → Nat → Int64} {K : Int32 → (Nat → Nat → Int32) → (Nat → Nat → Int64) → Prop} {w : Nat → Nat} {b kd note : Nat} {sil fer : Bool} (hd : 32 ≤ d) (hR : RM w I) (hO : OKW w) (hb : b ≤ 6) (hn : I 148 18 = nI note) (hnt : note ≤ 9) (hs : sil = decide (note = 0)) (hf : fer = decide (0 < w (75 + w (187 + 5 * b)))) (hk : kd ≤ 2) (k : ∀ f, K (nI (sumL w (fct w b) sil fer kd)) (dd_u I 156 f) L) : dd_Ev d m_X11_sumOf [.ref 148, .int (nI kd), .int (nI b)] (sM Ln I L c s) (dd_RI Ln c s K) := by
  obtain ⟨hW, hT, hP, hB, hL⟩ := hO
  obtain ⟨l1, l2⟩ := hL
  refine w_X11_sumOf_0 (by omega) ?_
  by_cases q : w 3 = 1
  · obtain ⟨l3, l4⟩ := l2 q
    unfold sumL at k
    simp only [if_pos q] at k
    have key : ∀ f, dd_Rn d m_X11_sumOf (5, [.ref 148, .int (nI kd), .int (nI b), .int (nI (sumA w (fct w b) sil fer kd 0)), .int (nI 0)], [], sM Ln (dd_u I 156 f) L c s) (dd_RI Ln c s K) := by
      refine dd_lp (fun i => ∀ f, dd_Rn d m_X11_sumOf (5, [.ref 148, .int (nI kd), .int (nI b), .int (nI (sumA w (fct w b) sil fer kd i)), .int (nI i)], [], sM Ln (dd_u I 156 f) L c s) (dd_RI Ln c s K)) (w 522) ?_ ?_
      · intro f
        refine w_X11_sumOf_5 (by omega) ?_
        simp (disch := omega) only [nI_add, pk_mul, tn, nI_clamp, nI_eq, nI_leI, nI_ltI, pk_sub, pk_div, pk_rem, nI_nm, nI_nm2, nI_nle1, nI_nlt1, nI_le1, nI_lt1, li_0, li_1, li_2, li_3, li_4, li_5, li_6, li_7, li_8, li_9, li_10, li_11, li_12, li_13, li_14, li_15, li_16, li_17, li_18, li_19, li_20, li_21, li_22, li_23, li_24, li_25, li_26, li_27, li_28, li_29, li_30, li_31, li_32, li_33, li_34, li_35, li_36, li_37, li_38, li_39, li_40, li_41, li_42, li_43, li_44, li_45, li_46, li_47, li_48, li_49, li_50, li_51, li_52, li_53, li_54, li_55, li_56, li_57, li_58, li_59, li_60, li_61, li_62, li_63, li_64, li_65, li_66, li_67, li_68, li_69, li_75, li_97, li_99, li_100, li_101, li_102, li_120, li_122, li_127, li_139, li_187, li_222, li_223, li_224, li_225, li_226, li_255, li_256, li_299, li_400, li_465, li_522, li_523, li_571, li_849, li_999, li_1000, li_1100, li_1371, li_1372, li_1420, li_1984, li_2220, li_5742, li_6264, li_9999, li_10000, li_12345, li_32767, li_65536, li_1000000, li_252645135, li_858993459, li_1103515245, li_1431655765, dd_us, dd_un, dd_u_u, pk_us, pk_un, Bool.true_eq_false, Bool.false_eq_true, true_and, and_true, true_implies, false_implies, implies_true, not_true_eq_false, not_false_eq_true, ne_eq, forall_const, sdm, Nat.add_zero, Nat.zero_add, sb_m1n, nmn1, nmn2, nmn3, nmn4, nmn5, nmn6, bI_0n, bI_1n, ck_and, im_t, im_f, if_pos, if_neg, hR.g]
        exact dd_qi (k f)
      · intro i hi ih f
        have on := l4 i hi
        obtain ⟨o1, o2, o3, o4, o5⟩ := on
        refine w_X11_sumOf_5 (by omega) ?_
        simp (disch := omega) only [nI_add, pk_mul, tn, nI_clamp, nI_eq, nI_leI, nI_ltI, pk_sub, pk_div, pk_rem, nI_nm, nI_nm2, nI_nle1, nI_nlt1, nI_le1, nI_lt1, li_0, li_1, li_2, li_3, li_4, li_5, li_6, li_7, li_8, li_9, li_10, li_11, li_12, li_13, li_14, li_15, li_16, li_17, li_18, li_19, li_20, li_21, li_22, li_23, li_24, li_25, li_26, li_27, li_28, li_29, li_30, li_31, li_32, li_33, li_34, li_35, li_36, li_37, li_38, li_39, li_40, li_41, li_42, li_43, li_44, li_45, li_46, li_47, li_48, li_49, li_50, li_51, li_52, li_53, li_54, li_55, li_56, li_57, li_58, li_59, li_60, li_61, li_62, li_63, li_64, li_65, li_66, li_67, li_68, li_69, li_75, li_97, li_99, li_100, li_101, li_102, li_120, li_122, li_127, li_139, li_187, li_222, li_223, li_224, li_225, li_226, li_255, li_256, li_299, li_400, li_465, li_522, li_523, li_571, li_849, li_999, li_1000, li_1100, li_1371, li_1372, li_1420, li_1984, li_2220, li_5742, li_6264, li_9999, li_10000, li_12345, li_32767, li_65536, li_1000000, li_252645135, li_858993459, li_1103515245, li_1431655765, dd_us, dd_un, dd_u_u, pk_us, pk_un, Bool.true_eq_false, Bool.false_eq_true, true_and, and_true, true_implies, false_implies, implies_true, not_true_eq_false, not_false_eq_true, ne_eq, forall_const, sdm, Nat.add_zero, Nat.zero_add, sb_m1n, nmn1, nmn2, nmn3, nmn4, nmn5, nmn6, bI_0n, bI_1n, ck_and, im_t, im_f, if_pos, if_neg, hR.g]
        unfold sumA at ih ⊢
        rw [lpf] at ih
        refine ⟨fun q2 => ?_, fun q2 => ?_⟩
        · refine M_holdsLine (by omega) (hR.of (dd_un (by decide))) (hB b hb) hW hT (by rw [dd_un (by decide)]; exact hn) hnt hs hf (by omega) (l4 i hi) fun g => ?_
          simp (disch := omega) only [nI_add, pk_mul, tn, nI_clamp, nI_eq, nI_leI, nI_ltI, pk_sub, pk_div, pk_rem, nI_nm, nI_nm2, nI_nle1, nI_nlt1, nI_le1, nI_lt1, li_0, li_1, li_2, li_3, li_4, li_5, li_6, li_7, li_8, li_9, li_10, li_11, li_12, li_13, li_14, li_15, li_16, li_17, li_18, li_19, li_20, li_21, li_22, li_23, li_24, li_25, li_26, li_27, li_28, li_29, li_30, li_31, li_32, li_33, li_34, li_35, li_36, li_37, li_38, li_39, li_40, li_41, li_42, li_43, li_44, li_45, li_46, li_47, li_48, li_49, li_50, li_51, li_52, li_53, li_54, li_55, li_56, li_57, li_58, li_59, li_60, li_61, li_62, li_63, li_64, li_65, li_66, li_67, li_68, li_69, li_75, li_97, li_99, li_100, li_101, li_102, li_120, li_122, li_127, li_139, li_187, li_222, li_223, li_224, li_225, li_226, li_255, li_256, li_299, li_400, li_465, li_522, li_523, li_571, li_849, li_999, li_1000, li_1100, li_1371, li_1372, li_1420, li_1984, li_2220, li_5742, li_6264, li_9999, li_10000, li_12345, li_32767, li_65536, li_1000000, li_252645135, li_858993459, li_1103515245, li_1431655765, dd_us, dd_un, dd_u_u, pk_us, pk_un, Bool.true_eq_false, Bool.false_eq_true, true_and, and_true, true_implies, false_implies, implies_true, not_true_eq_false, not_false_eq_true, ne_eq, forall_const, sdm, Nat.add_zero, Nat.zero_add, sb_m1n, nmn1, nmn2, nmn3, nmn4, nmn5, nmn6, bI_0n, bI_1n, ck_and, im_t, im_f, if_pos, if_neg, hR.g]
          refine ⟨fun q3 => ?_, fun q3 => ?_⟩
          · rw [if_neg (fun q4 => by rw [q3] at q4; exact absurd q4.2 (by decide))] at ih
            exact ih g
          · have q4 : hldL w (fct w b) sil fer i = true := by
              cases hh : hldL w (fct w b) sil fer i with
              | true => rfl
              | false => exact absurd hh q3
            rw [if_pos ⟨q2, q4⟩] at ih
            exact ih g
        · rw [if_neg (fun q4 => q2 q4.1)] at ih
          exact ih f
    have := key (I 156)
    rw [dd_u_id] at this
    exact this
  · refine w_X11_sumOf_5 (by omega) ?_
    simp (disch := omega) only [nI_add, pk_mul, tn, nI_clamp, nI_eq, nI_leI, nI_ltI, pk_sub, pk_div, pk_rem, nI_nm, nI_nm2, nI_nle1, nI_nlt1, nI_le1, nI_lt1, li_0, li_1, li_2, li_3, li_4, li_5, li_6, li_7, li_8, li_9, li_10, li_11, li_12, li_13, li_14, li_15, li_16, li_17, li_18, li_19, li_20, li_21, li_22, li_23, li_24, li_25, li_26, li_27, li_28, li_29, li_30, li_31, li_32, li_33, li_34, li_35, li_36, li_37, li_38, li_39, li_40, li_41, li_42, li_43, li_44, li_45, li_46, li_47, li_48, li_49, li_50, li_51, li_52, li_53, li_54, li_55, li_56, li_57, li_58, li_59, li_60, li_61, li_62, li_63, li_64, li_65, li_66, li_67, li_68, li_69, li_75, li_97, li_99, li_100, li_101, li_102, li_120, li_122, li_127, li_139, li_187, li_222, li_223, li_224, li_225, li_226, li_255, li_256, li_299, li_400, li_465, li_522, li_523, li_571, li_849, li_999, li_1000, li_1100, li_1371, li_1372, li_1420, li_1984, li_2220, li_5742, li_6264, li_9999, li_10000, li_12345, li_32767, li_65536, li_1000000, li_252645135, li_858993459, li_1103515245, li_1431655765, dd_us, dd_un, dd_u_u, pk_us, pk_un, Bool.true_eq_false, Bool.false_eq_true, true_and, and_true, true_implies, false_implies, implies_true, not_true_eq_false, not_false_eq_true, ne_eq, forall_const, sdm, Nat.add_zero, Nat.zero_add, sb_m1n, nmn1, nmn2, nmn3, nmn4, nmn5, nmn6, bI_0n, bI_1n, ck_and, im_t, im_f, if_pos, if_neg, hR.g]
    have kk := k (I 156)
    unfold sumL at kk
    rw [if_neg q, dd_u_id] at kk
    exact dd_qi kk
theorem M_staysBy {d Ln c s : Nat} {I : Nat → Nat → Int32} {L : Nat → Nat → Int64} {K : Int32 → (Nat → Nat → Int32) → (Nat → Nat → Int64) → Prop} {w : Nat → Nat} {b note : Nat} (hd : 33 ≤ d) (hR : RM w I) (hO : OKW w) (hb : b ≤ 6) (hnt : note ≤ 9) (k : ∀ I', RM w I' → FW I I' → K (bI (stB w b note)) I' L) : dd_Ev d m_X11_staysBy [.ref 148, .int (nI b), .int (nI note)] (sM Ln I L c s) (dd_RI Ln c s K) := by
  refine w_X11_staysBy_0 (by omega) ?_
  rw [li_2]
  refine M_sumOf (w := w) (note := note) (sil := decide (note = 0)) (fer := decide (0 < w (75 + w (187 + 5 * b)))) (by omega) (hR.of (dd_un (by decide))) hO hb (by rw [dd_us, pk_us]) hnt rfl rfl (by omega) fun f => ?_
  have hs := sumL_le (w := w) (F := fct w b) (sil := decide (note = 0)) (fer := decide (0 < w (75 + w (187 + 5 * b)))) (kd := 2) hO.2.2.2.2
  simp (disch := omega) only [nI_add, pk_mul, tn, nI_clamp, nI_eq, nI_leI, nI_ltI, pk_sub, pk_div, pk_rem, nI_nm, nI_nm2, nI_nle1, nI_nlt1, nI_le1, nI_lt1, li_0, li_1, li_2, li_3, li_4, li_5, li_6, li_7, li_8, li_9, li_10, li_11, li_12, li_13, li_14, li_15, li_16, li_17, li_18, li_19, li_20, li_21, li_22, li_23, li_24, li_25, li_26, li_27, li_28, li_29, li_30, li_31, li_32, li_33, li_34, li_35, li_36, li_37, li_38, li_39, li_40, li_41, li_42, li_43, li_44, li_45, li_46, li_47, li_48, li_49, li_50, li_51, li_52, li_53, li_54, li_55, li_56, li_57, li_58, li_59, li_60, li_61, li_62, li_63, li_64, li_65, li_66, li_67, li_68, li_69, li_75, li_97, li_99, li_100, li_101, li_102, li_120, li_122, li_127, li_139, li_187, li_222, li_223, li_224, li_225, li_226, li_255, li_256, li_299, li_400, li_465, li_522, li_523, li_571, li_849, li_999, li_1000, li_1100, li_1371, li_1372, li_1420, li_1984, li_2220, li_5742, li_6264, li_9999, li_10000, li_12345, li_32767, li_65536, li_1000000, li_252645135, li_858993459, li_1103515245, li_1431655765, dd_us, dd_un, dd_u_u, pk_us, pk_un, Bool.true_eq_false, Bool.false_eq_true, true_and, and_true, true_implies, false_implies, implies_true, not_true_eq_false, not_false_eq_true, ne_eq, forall_const, sdm, Nat.add_zero, Nat.zero_add, sb_m1n, nmn1, nmn2, nmn3, nmn4, nmn5, nmn6, bI_0n, bI_1n]
  have hR' : RM w (dd_u (dd_u I 148 (upd (I 148) 18 (nI note))) 156 f) := hR.of (by rw [dd_un (by decide), dd_un (by decide)])
  have hF : FW I (dd_u (dd_u I 148 (upd (I 148) 18 (nI note))) 156 f) := ((FR.refl I).v (by decide)).u (by decide) (by decide)
  have kk := k _ hR' hF
  unfold stB sts at kk
  refine ⟨fun q => ?_, fun q => ?_⟩
  · rw [decide_eq_false (by omega)] at kk
    exact dd_qi kk
  · rw [decide_eq_true (by omega)] at kk
    exact dd_qi kk
theorem gap_lt {a b : Nat} (ha : a < 64) (hb : b < 64) : gap a b ≤ 14 := by unfold gap; omega
theorem M_hearsBy {d Ln c s : Nat} {I : Nat → Nat → Int32} {L : Nat → Nat → Int64} {K : Int32 → (Nat → Nat → Int32) → (Nat → Nat → Int64) → Prop} {w : Nat → Nat} {b note : Nat} (hd : 33 ≤ d) (hR : RM w I) (hO : OKW w) (hb : b ≤ 6) (hnt : note ≤ 9) (k : ∀ I', RM w I' → FW I I' → K (bI (hrB w b note)) I' L) : dd_Ev d m_X11_hearsBy [.ref 148, .int (nI b), .int (nI note)] (sM Ln I L c s) (dd_RI Ln c s K) := by
  have hO' := hO
  obtain ⟨hW, hT, hP, hB, hL⟩ := hO
  obtain ⟨w0, w1, w2, w4, w5, w6, w7, w8, w9, w10⟩ := hW
  obtain ⟨b0, b1, b2, b3, b4, b5⟩ := hB b hb
  have bf := (hT _ b1).2
  have bg := gap_lt b1 w4
  refine w_X11_hearsBy_0 (by omega) ?_
  simp (disch := omega) only [nI_add, pk_mul, tn, nI_clamp, nI_eq, nI_leI, nI_ltI, pk_sub, pk_div, pk_rem, nI_nm, nI_nm2, nI_nle1, nI_nlt1, nI_le1, nI_lt1, li_0, li_1, li_2, li_3, li_4, li_5, li_6, li_7, li_8, li_9, li_10, li_11, li_12, li_13, li_14, li_15, li_16, li_17, li_18, li_19, li_20, li_21, li_22, li_23, li_24, li_25, li_26, li_27, li_28, li_29, li_30, li_31, li_32, li_33, li_34, li_35, li_36, li_37, li_38, li_39, li_40, li_41, li_42, li_43, li_44, li_45, li_46, li_47, li_48, li_49, li_50, li_51, li_52, li_53, li_54, li_55, li_56, li_57, li_58, li_59, li_60, li_61, li_62, li_63, li_64, li_65, li_66, li_67, li_68, li_69, li_75, li_97, li_99, li_100, li_101, li_102, li_120, li_122, li_127, li_139, li_187, li_222, li_223, li_224, li_225, li_226, li_255, li_256, li_299, li_400, li_465, li_522, li_523, li_571, li_849, li_999, li_1000, li_1100, li_1371, li_1372, li_1420, li_1984, li_2220, li_5742, li_6264, li_9999, li_10000, li_12345, li_32767, li_65536, li_1000000, li_252645135, li_858993459, li_1103515245, li_1431655765, dd_us, dd_un, dd_u_u, pk_us, pk_un, Bool.true_eq_false, Bool.false_eq_true, true_and, and_true, true_implies, false_implies, implies_true, not_true_eq_false, not_false_eq_true, ne_eq, forall_const, sdm, Nat.add_zero, Nat.zero_add, sb_m1n, nmn1, nmn2, nmn3, nmn4, nmn5, nmn6, bI_0n, bI_1n, ck_and, im_t, im_f, if_pos, if_neg, hR.g]
  have hR1 : RM w (dd_u I 148 (upd (I 148) 18 (nI note))) := hR.of (dd_un (by decide))
  refine M_nearOf (by omega) hR1 b1 w4 ?_
  refine M_sumOf (w := w) (note := note) (sil := decide (note = 0)) (fer := decide (0 < w (75 + w (187 + 5 * b)))) (by omega) hR1 hO' hb (by rw [dd_us, pk_us]) hnt rfl rfl (by omega) fun f => ?_
  refine M_sumOf (w := w) (note := note) (sil := decide (note = 0)) (fer := decide (0 < w (75 + w (187 + 5 * b)))) (by omega) (hR1.of (dd_un (by decide))) hO' hb (by rw [dd_un (by decide), dd_us, pk_us]) hnt rfl rfl (by omega) fun g => ?_
  have hs0 := sumL_le (w := w) (F := fct w b) (sil := decide (note = 0)) (fer := decide (0 < w (75 + w (187 + 5 * b)))) (kd := 0) hL
  have hs1 := sumL_le (w := w) (F := fct w b) (sil := decide (note = 0)) (fer := decide (0 < w (75 + w (187 + 5 * b)))) (kd := 1) hL
  simp (disch := omega) only [nI_add, pk_mul, tn, nI_clamp, nI_eq, nI_leI, nI_ltI, pk_sub, pk_div, pk_rem, nI_nm, nI_nm2, nI_nle1, nI_nlt1, nI_le1, nI_lt1, li_0, li_1, li_2, li_3, li_4, li_5, li_6, li_7, li_8, li_9, li_10, li_11, li_12, li_13, li_14, li_15, li_16, li_17, li_18, li_19, li_20, li_21, li_22, li_23, li_24, li_25, li_26, li_27, li_28, li_29, li_30, li_31, li_32, li_33, li_34, li_35, li_36, li_37, li_38, li_39, li_40, li_41, li_42, li_43, li_44, li_45, li_46, li_47, li_48, li_49, li_50, li_51, li_52, li_53, li_54, li_55, li_56, li_57, li_58, li_59, li_60, li_61, li_62, li_63, li_64, li_65, li_66, li_67, li_68, li_69, li_75, li_97, li_99, li_100, li_101, li_102, li_120, li_122, li_127, li_139, li_187, li_222, li_223, li_224, li_225, li_226, li_255, li_256, li_299, li_400, li_465, li_522, li_523, li_571, li_849, li_999, li_1000, li_1100, li_1371, li_1372, li_1420, li_1984, li_2220, li_5742, li_6264, li_9999, li_10000, li_12345, li_32767, li_65536, li_1000000, li_252645135, li_858993459, li_1103515245, li_1431655765, dd_us, dd_un, dd_u_u, pk_us, pk_un, Bool.true_eq_false, Bool.false_eq_true, true_and, and_true, true_implies, false_implies, implies_true, not_true_eq_false, not_false_eq_true, ne_eq, forall_const, sdm, Nat.add_zero, Nat.zero_add, sb_m1n, nmn1, nmn2, nmn3, nmn4, nmn5, nmn6, bI_0n, bI_1n, hR.g, dd_sl]
  have hF : FW I (dd_u (dd_u I 148 (upd (I 148) 18 (nI note))) 156 g) := ((FR.refl I).v (by decide)).u (by decide) (by decide)
  have kk := k _ (hR1.of (dd_un (by decide))) hF
  unfold hrB hrs at kk
  have f5 : fct w b 5 = gap (w (187 + 5 * b)) (w 4) := rfl
  have f2 : fct w b 2 = w (187 + 5 * b + 2) := rfl
  rw [f5, f2] at kk
  refine ⟨fun q => ?_, fun q => ?_⟩
  · rw [decide_eq_false (by omega)] at kk
    exact dd_qi kk
  · rw [decide_eq_true (by omega)] at kk
    exact dd_qi kk
theorem M_goesBy {d Ln c s : Nat} {I : Nat → Nat → Int32} {L : Nat → Nat → Int64} {K : Int32 → (Nat → Nat → Int32) → (Nat → Nat → Int64) → Prop} {w : Nat → Nat} {b note : Nat} (hd : 34 ≤ d) (hR : RM w I) (hO : OKW w) (hb : b ≤ 6) (hnt : note ≤ 9) (k : ∀ I', RM (gbW w b note) I' → FW I I' → K (bI (gbS w b note)) I' L) : dd_Ev d m_X11_goesBy [.ref 148, .int (nI b), .int (nI note)] (sM Ln I L c s) (dd_RI Ln c s K) := by
  have hO' := hO
  obtain ⟨hW, hT, hP, hB, hL⟩ := hO
  obtain ⟨w0, w1, w2, w4, w5, w6, w7, w8, w9, w10⟩ := hW
  obtain ⟨b0, b1, b2, b3, b4, b5⟩ := hB b hb
  refine w_X11_goesBy_0 (by omega) ?_
  simp (disch := omega) only [nI_add, pk_mul, tn, nI_clamp, nI_eq, nI_leI, nI_ltI, pk_sub, pk_div, pk_rem, nI_nm, nI_nm2, nI_nle1, nI_nlt1, nI_le1, nI_lt1, li_0, li_1, li_2, li_3, li_4, li_5, li_6, li_7, li_8, li_9, li_10, li_11, li_12, li_13, li_14, li_15, li_16, li_17, li_18, li_19, li_20, li_21, li_22, li_23, li_24, li_25, li_26, li_27, li_28, li_29, li_30, li_31, li_32, li_33, li_34, li_35, li_36, li_37, li_38, li_39, li_40, li_41, li_42, li_43, li_44, li_45, li_46, li_47, li_48, li_49, li_50, li_51, li_52, li_53, li_54, li_55, li_56, li_57, li_58, li_59, li_60, li_61, li_62, li_63, li_64, li_65, li_66, li_67, li_68, li_69, li_75, li_97, li_99, li_100, li_101, li_102, li_120, li_122, li_127, li_139, li_187, li_222, li_223, li_224, li_225, li_226, li_255, li_256, li_299, li_400, li_465, li_522, li_523, li_571, li_849, li_999, li_1000, li_1100, li_1371, li_1372, li_1420, li_1984, li_2220, li_5742, li_6264, li_9999, li_10000, li_12345, li_32767, li_65536, li_1000000, li_252645135, li_858993459, li_1103515245, li_1431655765, dd_us, dd_un, dd_u_u, pk_us, pk_un, Bool.true_eq_false, Bool.false_eq_true, true_and, and_true, true_implies, false_implies, implies_true, not_true_eq_false, not_false_eq_true, ne_eq, forall_const, sdm, Nat.add_zero, Nat.zero_add, sb_m1n, nmn1, nmn2, nmn3, nmn4, nmn5, nmn6, bI_0n, bI_1n, ck_and, im_t, im_f, if_pos, if_neg, hR.g]
  unfold gbW gbS at k
  refine ⟨fun q => ?_, fun q => ?_⟩
  · rw [if_pos (Or.inl q), decide_eq_false (fun x => x q)] at k
    exact dd_qi (k I hR (FR.refl I))
  · rw [decide_eq_true q] at k
    refine M_staysBy (by omega) hR hO' hb hnt fun I1 hR1 hF1 => ?_
    simp only [bI_0n]
    refine ⟨fun hst => ?_, fun hst => ?_⟩
    · refine M_hearsBy (by omega) hR1 hO' hb hnt fun I2 hR2 hF2 => ?_
      simp (disch := omega) only [nI_add, pk_mul, tn, nI_clamp, nI_eq, nI_leI, nI_ltI, pk_sub, pk_div, pk_rem, nI_nm, nI_nm2, nI_nle1, nI_nlt1, nI_le1, nI_lt1, li_0, li_1, li_2, li_3, li_4, li_5, li_6, li_7, li_8, li_9, li_10, li_11, li_12, li_13, li_14, li_15, li_16, li_17, li_18, li_19, li_20, li_21, li_22, li_23, li_24, li_25, li_26, li_27, li_28, li_29, li_30, li_31, li_32, li_33, li_34, li_35, li_36, li_37, li_38, li_39, li_40, li_41, li_42, li_43, li_44, li_45, li_46, li_47, li_48, li_49, li_50, li_51, li_52, li_53, li_54, li_55, li_56, li_57, li_58, li_59, li_60, li_61, li_62, li_63, li_64, li_65, li_66, li_67, li_68, li_69, li_75, li_97, li_99, li_100, li_101, li_102, li_120, li_122, li_127, li_139, li_187, li_222, li_223, li_224, li_225, li_226, li_255, li_256, li_299, li_400, li_465, li_522, li_523, li_571, li_849, li_999, li_1000, li_1100, li_1371, li_1372, li_1420, li_1984, li_2220, li_5742, li_6264, li_9999, li_10000, li_12345, li_32767, li_65536, li_1000000, li_252645135, li_858993459, li_1103515245, li_1431655765, dd_us, dd_un, dd_u_u, pk_us, pk_un, Bool.true_eq_false, Bool.false_eq_true, true_and, and_true, true_implies, false_implies, implies_true, not_true_eq_false, not_false_eq_true, ne_eq, forall_const, sdm, Nat.add_zero, Nat.zero_add, sb_m1n, nmn1, nmn2, nmn3, nmn4, nmn5, nmn6, bI_0n, bI_1n, ck_and, im_t, im_f, if_pos, if_neg, hR2.g]
      refine ⟨fun hhr => ?_, fun hhr => ?_⟩
      · rw [hst, hhr, if_pos (Or.inr (Or.inr rfl))] at k
        exact dd_qi (k I2 hR2 (hF1.trans hF2))
      · rw [Bool.not_eq_false] at hhr
        rw [hst, hhr, if_neg (by simp [q])] at k
        refine M_comesBy (by omega) hR2 hT w4 b1 hnt ?_
        refine M_isThere (by omega) hR2 hb (cby_lt b1) w4 fun I3 hR3 hF3 => ?_
        exact dd_qi (k I3 hR3 ((hF1.trans hF2).trans hF3))
    · rw [Bool.not_eq_false] at hst
      rw [hst, if_pos (Or.inr (Or.inl rfl))] at k
      exact dd_qi (k I1 hR1 hF1)
/-- a shift of rows, as far as it has come -/
def telA (w : Nat → Nat) (t : Nat) : Nat → Nat := fun j => if 522 - t ≤ j ∧ j < 522 then w (j - 5) else w j
theorem telA_s {w : Nat → Nat} {t : Nat} (ht : t < 295) : upw (telA w t) (521 - t) (telA w t (516 - t)) = telA w (t + 1) := by
  funext j
  unfold upw telA
  by_cases e : j = 521 - t
  · rw [if_pos e, if_neg (by omega), if_pos (by omega), e, show 521 - t - 5 = 516 - t by omega]
  · rw [if_neg e]
    by_cases e2 : 522 - t ≤ j ∧ j < 522
    · rw [if_pos e2, if_pos (by omega)]
    · rw [if_neg e2, if_neg (by omega)]
theorem M_tells {d Ln c s : Nat} {I : Nat → Nat → Int32} {L : Nat → Nat → Int64} {K : (Nat → Nat → Int32) → (Nat → Nat → Int64) → Prop} {w : Nat → Nat} {b x : Nat} (hd : 28 ≤ d) (hR : RM w I) (hO : OKW w) (hb : b ≤ 6) (hx : x ≤ 1) (k : ∀ I', RM (tel w b x) I' → FW I I' → K I' L) : dd_Ev d m_X11_tells [.ref 148, .int (nI b), .int (nI x)] (sM Ln I L c s) (dd_RV Ln c s K) := by
  obtain ⟨hW, hT, hP, hB, hL⟩ := hO
  obtain ⟨w0, w1, w2, w4, w5, w6, w7, w8, w9, w10⟩ := hW
  obtain ⟨b0, b1, b2, b3, b4, b5⟩ := hB b hb
  refine w_X11_tells_0 hd ?_
  have key : ∀ f, (∀ j, j < 1371 → f j = nI (telA w 0 j)) → dd_Rn d m_X11_tells (4, [.ref 148, .int (nI b), .int (nI x), .int (nI (299 - 0))], [], sM Ln (dd_u I 149 f) L c s) (dd_RV Ln c s K) := by
    refine dd_lp (fun t => ∀ f, (∀ j, j < 1371 → f j = nI (telA w t j)) → dd_Rn d m_X11_tells (4, [.ref 148, .int (nI b), .int (nI x), .int (nI (299 - t))], [], sM Ln (dd_u I 149 f) L c s) (dd_RV Ln c s K)) 295 ?_ ?_
    · intro f hf
      refine w_X11_tells_4 hd ?_
      have f8 := hf 8 (by omega)
      have f7 := hf 7 (by omega)
      have f9 := hf 9 (by omega)
      have fb := hf (187 + 5 * b) (by omega)
      unfold telA at f8 f7 f9 fb
      rw [if_neg (by omega)] at f8 f7 f9 fb
      simp (disch := omega) only [nI_add, pk_mul, tn, nI_clamp, nI_eq, nI_leI, nI_ltI, pk_sub, pk_div, pk_rem, nI_nm, nI_nm2, nI_nle1, nI_nlt1, nI_le1, nI_lt1, li_0, li_1, li_2, li_3, li_4, li_5, li_6, li_7, li_8, li_9, li_10, li_11, li_12, li_13, li_14, li_15, li_16, li_17, li_18, li_19, li_20, li_21, li_22, li_23, li_24, li_25, li_26, li_27, li_28, li_29, li_30, li_31, li_32, li_33, li_34, li_35, li_36, li_37, li_38, li_39, li_40, li_41, li_42, li_43, li_44, li_45, li_46, li_47, li_48, li_49, li_50, li_51, li_52, li_53, li_54, li_55, li_56, li_57, li_58, li_59, li_60, li_61, li_62, li_63, li_64, li_65, li_66, li_67, li_68, li_69, li_75, li_97, li_99, li_100, li_101, li_102, li_120, li_122, li_127, li_139, li_187, li_222, li_223, li_224, li_225, li_226, li_255, li_256, li_299, li_400, li_465, li_522, li_523, li_571, li_849, li_999, li_1000, li_1100, li_1371, li_1372, li_1420, li_1984, li_2220, li_5742, li_6264, li_9999, li_10000, li_12345, li_32767, li_65536, li_1000000, li_252645135, li_858993459, li_1103515245, li_1431655765, dd_us, dd_un, dd_u_u, pk_us, pk_un, Bool.true_eq_false, Bool.false_eq_true, true_and, and_true, true_implies, false_implies, implies_true, not_true_eq_false, not_false_eq_true, ne_eq, forall_const, sdm, Nat.add_zero, Nat.zero_add, sb_m1n, nmn1, nmn2, nmn3, nmn4, nmn5, nmn6, bI_0n, bI_1n, ck_and, im_t, im_f, if_pos, if_neg, f8, f7, f9, fb, ite_n]
      refine dd_qV (k _ (RM.set ?_) ((FR.refl I).u (by decide) (by decide)))
      intro j hj
      rw [nu (nu (nu (nu (nu (nu hf 222 (w 8)) 223 (w 7)) 224 b) 225 x) 226 (w (187 + 5 * b))) 9 (if w 9 + 1 < 60 then w 9 + 1 else 60) j hj]
      congr 1
      unfold upw telA tel
      by_cases e9 : j = 9
      · rw [if_pos e9, if_pos e9]; split <;> omega
      · rw [if_neg e9, if_neg e9]
        by_cases e : j < 222 ∨ 522 ≤ j
        · rw [if_neg (by omega), if_neg (by omega), if_neg (by omega), if_neg (by omega), if_neg (by omega), if_neg (by omega), if_pos e]
        · rw [if_neg e]
          by_cases e6 : j = 226
          · rw [if_pos e6, if_neg (by omega), if_neg (by omega), if_neg (by omega), if_neg (by omega), if_pos e6]
          · rw [if_neg e6]
            by_cases e5 : j = 225
            · rw [if_pos e5, if_neg (by omega), if_neg (by omega), if_neg (by omega), if_pos e5]
            · rw [if_neg e5]
              by_cases e4 : j = 224
              · rw [if_pos e4, if_neg (by omega), if_neg (by omega), if_pos e4]
              · rw [if_neg e4]
                by_cases e3 : j = 223
                · rw [if_pos e3, if_neg (by omega), if_pos e3]
                · rw [if_neg e3]
                  by_cases e2 : j = 222
                  · rw [if_pos e2, if_pos e2]
                  · rw [if_neg e2, if_neg e2, if_neg e3, if_neg e4, if_neg e5, if_neg e6, if_pos (by omega)]
    · intro t ht ih f hf
      refine w_X11_tells_4 hd ?_
      have e1 : nI (299 - t) + (-1) = nI (299 - (t + 1)) := sb_m1 (by omega)
      have e2 : 222 + (299 - t) - 5 = 516 - t := by omega
      have e3 : 222 + (299 - t) = 521 - t := by omega
      have f1 : f (521 - t - 5) = nI (telA w t (516 - t)) := by rw [show 521 - t - 5 = 516 - t by omega]; exact hf _ (by omega)
      simp (disch := omega) only [nI_add, pk_mul, tn, nI_clamp, nI_eq, nI_leI, nI_ltI, pk_sub, pk_div, pk_rem, nI_nm, nI_nm2, nI_nle1, nI_nlt1, nI_le1, nI_lt1, li_0, li_1, li_2, li_3, li_4, li_5, li_6, li_7, li_8, li_9, li_10, li_11, li_12, li_13, li_14, li_15, li_16, li_17, li_18, li_19, li_20, li_21, li_22, li_23, li_24, li_25, li_26, li_27, li_28, li_29, li_30, li_31, li_32, li_33, li_34, li_35, li_36, li_37, li_38, li_39, li_40, li_41, li_42, li_43, li_44, li_45, li_46, li_47, li_48, li_49, li_50, li_51, li_52, li_53, li_54, li_55, li_56, li_57, li_58, li_59, li_60, li_61, li_62, li_63, li_64, li_65, li_66, li_67, li_68, li_69, li_75, li_97, li_99, li_100, li_101, li_102, li_120, li_122, li_127, li_139, li_187, li_222, li_223, li_224, li_225, li_226, li_255, li_256, li_299, li_400, li_465, li_522, li_523, li_571, li_849, li_999, li_1000, li_1100, li_1371, li_1372, li_1420, li_1984, li_2220, li_5742, li_6264, li_9999, li_10000, li_12345, li_32767, li_65536, li_1000000, li_252645135, li_858993459, li_1103515245, li_1431655765, dd_us, dd_un, dd_u_u, pk_us, pk_un, Bool.true_eq_false, Bool.false_eq_true, true_and, and_true, true_implies, false_implies, implies_true, not_true_eq_false, not_false_eq_true, ne_eq, forall_const, sdm, Nat.add_zero, Nat.zero_add, sb_m1n, nmn1, nmn2, nmn3, nmn4, nmn5, nmn6, bI_0n, bI_1n, ck_and, im_t, im_f, if_pos, if_neg, e1, e2, e3, f1]
      refine ih _ ?_
      rw [← telA_s ht]
      exact nu hf _ _
  have := key (I 149) (fun j hj => by rw [hR j hj]; unfold telA; rw [if_neg (by omega)])
  rw [dd_u_id] at this
  exact this
theorem M_drawn {d Ln c s : Nat} {I : Nat → Nat → Int32} {L : Nat → Nat → Int64} {K : Int32 → (Nat → Nat → Int32) → (Nat → Nat → Int64) → Prop} {w : Nat → Nat} {n : Nat} (hd : 28 ≤ d) (hR : RM w I) (h0 : 0 < n) (hn : n ≤ 100) (k : ∀ I', RM (drw w) I' → FW I I' → K (nI (drn w n)) I' L) : dd_Ev d m_X11_drawn [.ref 148, .int (nI n)] (sM Ln I L c s) (dd_RI Ln c s K) := by
  refine w_X11_drawn_0 hd ?_
  have e : (1103515245 : Int32) * I 149 10 + 12345 = nI ((1103515245 * w 10 + 12345) % 2 ^ 32) := by
    rw [hR.g (by omega), li_1103515245, li_12345, pk_mul, nI_add, nI_mod]
  rw [e, sar16 (Nat.mod_lt _ (by decide))]
  refine ⟨?_, ?_⟩
  · rw [li_0, nI_eq (by omega) (by omega)]; omega
  · rw [pk_rem (by omega) h0 (by omega)]
    exact dd_qi (k _ (RM.set (nu hR 10 _)) ((FR.refl I).u (by decide) (by decide)))
theorem M_strays {d Ln c s : Nat} {I : Nat → Nat → Int32} {L : Nat → Nat → Int64} {K : (Nat → Nat → Int32) → (Nat → Nat → Int64) → Prop} {w : Nat → Nat} {b : Nat} (hd : 30 ≤ d) (hR : RM w I) (hO : OKW w) (hb : b ≤ 6) (k : ∀ I', RM (stry w b) I' → FW I I' → K I' L) : dd_Ev d m_X11_strays [.ref 148, .int (nI b)] (sM Ln I L c s) (dd_RV Ln c s K) := by
  have o1 := okW_drw hO
  have o2 := okW_drw o1
  have w6 := hO.1.2.2.2.2.2.1
  refine w_X11_strays_0 (by omega) ?_
  rw [li_100]
  refine M_drawn (by omega) hR (by omega) (by omega) fun I1 hR1 hF1 => ?_
  have e6 : drw w 6 = w 6 := drw_ne (by omega)
  have ec : drw (drw w) (187 + 5 * b) = drw w (187 + 5 * b) := drw_ne (by omega)
  have bd : drn w 100 < 100 := Nat.mod_lt _ (by omega)
  have bd4 : drn (drw w) 4 < 4 := Nat.mod_lt _ (by omega)
  simp (disch := omega) only [nI_add, pk_mul, tn, nI_clamp, nI_eq, nI_leI, nI_ltI, pk_sub, pk_div, pk_rem, nI_nm, nI_nm2, nI_nle1, nI_nlt1, nI_le1, nI_lt1, li_0, li_1, li_2, li_3, li_4, li_5, li_6, li_7, li_8, li_9, li_10, li_11, li_12, li_13, li_14, li_15, li_16, li_17, li_18, li_19, li_20, li_21, li_22, li_23, li_24, li_25, li_26, li_27, li_28, li_29, li_30, li_31, li_32, li_33, li_34, li_35, li_36, li_37, li_38, li_39, li_40, li_41, li_42, li_43, li_44, li_45, li_46, li_47, li_48, li_49, li_50, li_51, li_52, li_53, li_54, li_55, li_56, li_57, li_58, li_59, li_60, li_61, li_62, li_63, li_64, li_65, li_66, li_67, li_68, li_69, li_75, li_97, li_99, li_100, li_101, li_102, li_120, li_122, li_127, li_139, li_187, li_222, li_223, li_224, li_225, li_226, li_255, li_256, li_299, li_400, li_465, li_522, li_523, li_571, li_849, li_999, li_1000, li_1100, li_1371, li_1372, li_1420, li_1984, li_2220, li_5742, li_6264, li_9999, li_10000, li_12345, li_32767, li_65536, li_1000000, li_252645135, li_858993459, li_1103515245, li_1431655765, dd_us, dd_un, dd_u_u, pk_us, pk_un, Bool.true_eq_false, Bool.false_eq_true, true_and, and_true, true_implies, false_implies, implies_true, not_true_eq_false, not_false_eq_true, ne_eq, forall_const, sdm, Nat.add_zero, Nat.zero_add, sb_m1n, nmn1, nmn2, nmn3, nmn4, nmn5, nmn6, bI_0n, bI_1n, ck_and, im_t, im_f, if_pos, if_neg, hR1.g, e6]
  unfold stry at k
  refine ⟨fun q => ?_, fun q => ?_⟩
  · rw [if_neg (by omega)] at k
    refine M_drawn (by omega) hR1 (by omega) (by omega) fun I2 hR2 hF2 => ?_
    simp (disch := omega) only [nI_add, pk_mul, tn, nI_clamp, nI_eq, nI_leI, nI_ltI, pk_sub, pk_div, pk_rem, nI_nm, nI_nm2, nI_nle1, nI_nlt1, nI_le1, nI_lt1, li_0, li_1, li_2, li_3, li_4, li_5, li_6, li_7, li_8, li_9, li_10, li_11, li_12, li_13, li_14, li_15, li_16, li_17, li_18, li_19, li_20, li_21, li_22, li_23, li_24, li_25, li_26, li_27, li_28, li_29, li_30, li_31, li_32, li_33, li_34, li_35, li_36, li_37, li_38, li_39, li_40, li_41, li_42, li_43, li_44, li_45, li_46, li_47, li_48, li_49, li_50, li_51, li_52, li_53, li_54, li_55, li_56, li_57, li_58, li_59, li_60, li_61, li_62, li_63, li_64, li_65, li_66, li_67, li_68, li_69, li_75, li_97, li_99, li_100, li_101, li_102, li_120, li_122, li_127, li_139, li_187, li_222, li_223, li_224, li_225, li_226, li_255, li_256, li_299, li_400, li_465, li_522, li_523, li_571, li_849, li_999, li_1000, li_1100, li_1371, li_1372, li_1420, li_1984, li_2220, li_5742, li_6264, li_9999, li_10000, li_12345, li_32767, li_65536, li_1000000, li_252645135, li_858993459, li_1103515245, li_1431655765, dd_us, dd_un, dd_u_u, pk_us, pk_un, Bool.true_eq_false, Bool.false_eq_true, true_and, and_true, true_implies, false_implies, implies_true, not_true_eq_false, not_false_eq_true, ne_eq, forall_const, sdm, Nat.add_zero, Nat.zero_add, sb_m1n, nmn1, nmn2, nmn3, nmn4, nmn5, nmn6, bI_0n, bI_1n]
    have b1 := (o2.2.2.2.1 b hb).2.1
    refine M_stepTo (w := drw (drw w)) (by omega) hR2 o2.2.1 (by rw [ec] at b1; exact b1) (by omega) (by omega) ?_
    refine M_isThere (by omega) hR2 hb (stp_lt (by rw [ec] at b1; exact b1)) o2.1.2.2.2.1 fun I3 hR3 hF3 => ?_
    have e2 : ist (drw (drw w)) b (stp (drw (drw w)) (drw w (187 + 5 * b)) (1 + drn (drw w) 4)) = str2 (drw w) b := by unfold str2; rw [ec]
    rw [e2] at hR3
    have o3 : OKW (str2 (drw w) b) := okW_ist o2 hb (stp_lt b1)
    have b4 := (o3.2.2.2.1 b hb).2.2.2.2.2
    simp (disch := omega) only [nI_add, pk_mul, tn, nI_clamp, nI_eq, nI_leI, nI_ltI, pk_sub, pk_div, pk_rem, nI_nm, nI_nm2, nI_nle1, nI_nlt1, nI_le1, nI_lt1, li_0, li_1, li_2, li_3, li_4, li_5, li_6, li_7, li_8, li_9, li_10, li_11, li_12, li_13, li_14, li_15, li_16, li_17, li_18, li_19, li_20, li_21, li_22, li_23, li_24, li_25, li_26, li_27, li_28, li_29, li_30, li_31, li_32, li_33, li_34, li_35, li_36, li_37, li_38, li_39, li_40, li_41, li_42, li_43, li_44, li_45, li_46, li_47, li_48, li_49, li_50, li_51, li_52, li_53, li_54, li_55, li_56, li_57, li_58, li_59, li_60, li_61, li_62, li_63, li_64, li_65, li_66, li_67, li_68, li_69, li_75, li_97, li_99, li_100, li_101, li_102, li_120, li_122, li_127, li_139, li_187, li_222, li_223, li_224, li_225, li_226, li_255, li_256, li_299, li_400, li_465, li_522, li_523, li_571, li_849, li_999, li_1000, li_1100, li_1371, li_1372, li_1420, li_1984, li_2220, li_5742, li_6264, li_9999, li_10000, li_12345, li_32767, li_65536, li_1000000, li_252645135, li_858993459, li_1103515245, li_1431655765, dd_us, dd_un, dd_u_u, pk_us, pk_un, Bool.true_eq_false, Bool.false_eq_true, true_and, and_true, true_implies, false_implies, implies_true, not_true_eq_false, not_false_eq_true, ne_eq, forall_const, sdm, Nat.add_zero, Nat.zero_add, sb_m1n, nmn1, nmn2, nmn3, nmn4, nmn5, nmn6, bI_0n, bI_1n, ck_and, im_t, im_f, if_pos, if_neg, hR3.g, ite_n]
    have e3 : (if str2 (drw w) b (187 + 5 * b + 4) + 1 < 99 then str2 (drw w) b (187 + 5 * b + 4) + 1 else 99) = min 99 (str2 (drw w) b (187 + 5 * b + 4) + 1) := by split <;> omega
    rw [e3]
    have o4 : OKW (str3 (drw w) b) := okW_b o3 hb (by omega) (by omega)
    refine M_tells (w := str3 (drw w) b) (by omega) (RM.set (nu hR3 _ _)) o4 hb (by omega) fun I4 hR4 hF4 => ?_
    refine dd_qV (k I4 hR4 ?_)
    exact ((hF1.trans (hF2.trans hF3)).u (by decide) (by decide)).trans hF4
  · rw [if_pos (by omega)] at k
    exact dd_qV (k I1 hR1 hF1)
theorem M_oneBeat {d Ln c s : Nat} {I : Nat → Nat → Int32} {L : Nat → Nat → Int64} {K : Int32 → (Nat → Nat → Int32) → (Nat → Nat → Int64) → Prop} {w : Nat → Nat} {cm : Bool} (hd : 35 ≤ d) (hR : RM w I) (hO : OKW w) (k : ∀ I', RM (beatA cm w).1 I' → FW I I' → K (nI (beatA cm w).2) I' L) : dd_Ev d m_X11_oneBeat [.ref 148, .int (bI cm)] (sM Ln I L c s) (dd_RI Ln c s K) := by
  refine w_X11_oneBeat_0 (by omega) ?_
  have h1 := hO.1.2.1
  have key : ∀ I', RM (boysA cm w 0).1 I' → FW I I' → dd_Rn d m_X11_oneBeat (4, [.ref 148, .int (bI cm), .int (nI (boysA cm w 0).2), .int (nI 0)], [], sM Ln I' L c s) (dd_RI Ln c s K) := by
    refine dd_lp (fun i => ∀ I', RM (boysA cm w i).1 I' → FW I I' → dd_Rn d m_X11_oneBeat (4, [.ref 148, .int (bI cm), .int (nI (boysA cm w i).2), .int (nI i)], [], sM Ln I' L c s) (dd_RI Ln c s K)) (w 1) ?_ ?_
    · intro I1 hR1 hF1
      obtain ⟨o1, s1⟩ := boysA_ok hO (cm := cm) (w 1) h1
      have e1 : (boysA cm w (w 1)).1 1 = w 1 := s1 1 (by omega)
      refine w_X11_oneBeat_4 (by omega) ?_
      simp (disch := omega) only [nI_add, pk_mul, tn, nI_clamp, nI_eq, nI_leI, nI_ltI, pk_sub, pk_div, pk_rem, nI_nm, nI_nm2, nI_nle1, nI_nlt1, nI_le1, nI_lt1, li_0, li_1, li_2, li_3, li_4, li_5, li_6, li_7, li_8, li_9, li_10, li_11, li_12, li_13, li_14, li_15, li_16, li_17, li_18, li_19, li_20, li_21, li_22, li_23, li_24, li_25, li_26, li_27, li_28, li_29, li_30, li_31, li_32, li_33, li_34, li_35, li_36, li_37, li_38, li_39, li_40, li_41, li_42, li_43, li_44, li_45, li_46, li_47, li_48, li_49, li_50, li_51, li_52, li_53, li_54, li_55, li_56, li_57, li_58, li_59, li_60, li_61, li_62, li_63, li_64, li_65, li_66, li_67, li_68, li_69, li_75, li_97, li_99, li_100, li_101, li_102, li_120, li_122, li_127, li_139, li_187, li_222, li_223, li_224, li_225, li_226, li_255, li_256, li_299, li_400, li_465, li_522, li_523, li_571, li_849, li_999, li_1000, li_1100, li_1371, li_1372, li_1420, li_1984, li_2220, li_5742, li_6264, li_9999, li_10000, li_12345, li_32767, li_65536, li_1000000, li_252645135, li_858993459, li_1103515245, li_1431655765, dd_us, dd_un, dd_u_u, pk_us, pk_un, Bool.true_eq_false, Bool.false_eq_true, true_and, and_true, true_implies, false_implies, implies_true, not_true_eq_false, not_false_eq_true, ne_eq, forall_const, sdm, Nat.add_zero, Nat.zero_add, sb_m1n, nmn1, nmn2, nmn3, nmn4, nmn5, nmn6, bI_0n, bI_1n, ck_and, im_t, im_f, if_pos, if_neg, hR1.g, e1]
      refine M_beatEnds (by omega) hR1 o1.1.2.2.2.2.2.2.1 o1.1.2.2.2.2.2.2.2.1 fun I2 hR2 hF2 => ?_
      exact dd_qi (k I2 hR2 (hF1.trans hF2))
    · intro i hi ih I1 hR1 hF1
      obtain ⟨o1, s1⟩ := boysA_ok hO (cm := cm) i (by omega)
      have e1 : (boysA cm w i).1 1 = w 1 := s1 1 (by omega)
      have ih' : ∀ I', RM (oneB cm i (boysA cm w i).1) I' → FW I I' → dd_Rn d m_X11_oneBeat (4, [.ref 148, .int (bI cm), .int (nI ((boysA cm w i).2 + oneC cm i (boysA cm w i).1)), .int (nI (i + 1))], [], sM Ln I' L c s) (dd_RI Ln c s K) := ih
      clear ih
      generalize hw1 : (boysA cm w i).1 = w1 at *
      generalize (boysA cm w i).2 = n1 at *
      have o1' := o1
      obtain ⟨hW, hT, hP, hB, hL⟩ := o1
      obtain ⟨w0, wb1, w2, w4, w5, w6, w7, w8, w9, w10⟩ := hW
      obtain ⟨b0, b1, b2, b3, b4, b5⟩ := hB i (by omega)
      have hN := hP _ b2 _ w7
      unfold oneB oneC at ih'
      refine w_X11_oneBeat_4 (by omega) ?_
      simp (disch := omega) only [nI_add, pk_mul, tn, nI_clamp, nI_eq, nI_leI, nI_ltI, pk_sub, pk_div, pk_rem, nI_nm, nI_nm2, nI_nle1, nI_nlt1, nI_le1, nI_lt1, li_0, li_1, li_2, li_3, li_4, li_5, li_6, li_7, li_8, li_9, li_10, li_11, li_12, li_13, li_14, li_15, li_16, li_17, li_18, li_19, li_20, li_21, li_22, li_23, li_24, li_25, li_26, li_27, li_28, li_29, li_30, li_31, li_32, li_33, li_34, li_35, li_36, li_37, li_38, li_39, li_40, li_41, li_42, li_43, li_44, li_45, li_46, li_47, li_48, li_49, li_50, li_51, li_52, li_53, li_54, li_55, li_56, li_57, li_58, li_59, li_60, li_61, li_62, li_63, li_64, li_65, li_66, li_67, li_68, li_69, li_75, li_97, li_99, li_100, li_101, li_102, li_120, li_122, li_127, li_139, li_187, li_222, li_223, li_224, li_225, li_226, li_255, li_256, li_299, li_400, li_465, li_522, li_523, li_571, li_849, li_999, li_1000, li_1100, li_1371, li_1372, li_1420, li_1984, li_2220, li_5742, li_6264, li_9999, li_10000, li_12345, li_32767, li_65536, li_1000000, li_252645135, li_858993459, li_1103515245, li_1431655765, dd_us, dd_un, dd_u_u, pk_us, pk_un, Bool.true_eq_false, Bool.false_eq_true, true_and, and_true, true_implies, false_implies, implies_true, not_true_eq_false, not_false_eq_true, ne_eq, forall_const, sdm, Nat.add_zero, Nat.zero_add, sb_m1n, nmn1, nmn2, nmn3, nmn4, nmn5, nmn6, bI_0n, bI_1n, ck_and, im_t, im_f, if_pos, if_neg, hR1.g, e1]
      refine ⟨fun q => ?_, fun q => ?_⟩
      · simp only [if_pos q] at ih'
        exact ih' I1 hR1 hF1
      · simp only [if_neg q] at ih'
        refine M_goesBy (by omega) hR1 o1' (by omega) hN fun I2 hR2 hF2 => ?_
        have og := okW_gbW o1' (b := i) (x := w1 (139 + 8 * w1 (187 + 5 * i + 1) + w1 7)) (by omega)
        have ogb := (og.2.2.2.1 i (by omega)).2.2.2.2.1
        have en : ntB w1 i = w1 (139 + 8 * w1 (187 + 5 * i + 1) + w1 7) := rfl
        have hF12 := hF1.trans hF2
        cases hg : gbS w1 i (w1 (139 + 8 * w1 (187 + 5 * i + 1) + w1 7)) with
        | false =>
          have eg : oneG cm w1 i = gbW w1 i (w1 (139 + 8 * w1 (187 + 5 * i + 1) + w1 7)) := by
            unfold oneG
            rw [en, hg, Bool.false_and]
            rfl
          rw [eg] at ih'
          simp (disch := omega) only [nI_add, pk_mul, tn, nI_clamp, nI_eq, nI_leI, nI_ltI, pk_sub, pk_div, pk_rem, nI_nm, nI_nm2, nI_nle1, nI_nlt1, nI_le1, nI_lt1, li_0, li_1, li_2, li_3, li_4, li_5, li_6, li_7, li_8, li_9, li_10, li_11, li_12, li_13, li_14, li_15, li_16, li_17, li_18, li_19, li_20, li_21, li_22, li_23, li_24, li_25, li_26, li_27, li_28, li_29, li_30, li_31, li_32, li_33, li_34, li_35, li_36, li_37, li_38, li_39, li_40, li_41, li_42, li_43, li_44, li_45, li_46, li_47, li_48, li_49, li_50, li_51, li_52, li_53, li_54, li_55, li_56, li_57, li_58, li_59, li_60, li_61, li_62, li_63, li_64, li_65, li_66, li_67, li_68, li_69, li_75, li_97, li_99, li_100, li_101, li_102, li_120, li_122, li_127, li_139, li_187, li_222, li_223, li_224, li_225, li_226, li_255, li_256, li_299, li_400, li_465, li_522, li_523, li_571, li_849, li_999, li_1000, li_1100, li_1371, li_1372, li_1420, li_1984, li_2220, li_5742, li_6264, li_9999, li_10000, li_12345, li_32767, li_65536, li_1000000, li_252645135, li_858993459, li_1103515245, li_1431655765, dd_us, dd_un, dd_u_u, pk_us, pk_un, Bool.true_eq_false, Bool.false_eq_true, true_and, and_true, true_implies, false_implies, implies_true, not_true_eq_false, not_false_eq_true, ne_eq, forall_const, sdm, Nat.add_zero, Nat.zero_add, sb_m1n, nmn1, nmn2, nmn3, nmn4, nmn5, nmn6, bI_0n, bI_1n, ck_and, im_t, im_f, if_pos, if_neg, hR2.g, bI_f]
          refine ⟨fun q2 => ?_, fun q2 => ?_⟩
          · simp only [if_pos q2] at ih'
            refine M_tells (by omega) hR2 og (by omega) (by omega) fun I3 hR3 hF3 => ?_
            exact ih' I3 hR3 (hF12.trans hF3)
          · simp only [if_neg q2] at ih'
            exact ih' I2 hR2 hF12
        | true =>
          cases hcm : cm with
          | true =>
            have eg : oneG cm w1 i = gbW w1 i (w1 (139 + 8 * w1 (187 + 5 * i + 1) + w1 7)) := by
              unfold oneG
              rw [en, hg, hcm]
              rfl
            rw [eg] at ih'
            rw [hcm] at ih'
            simp (disch := omega) only [nI_add, pk_mul, tn, nI_clamp, nI_eq, nI_leI, nI_ltI, pk_sub, pk_div, pk_rem, nI_nm, nI_nm2, nI_nle1, nI_nlt1, nI_le1, nI_lt1, li_0, li_1, li_2, li_3, li_4, li_5, li_6, li_7, li_8, li_9, li_10, li_11, li_12, li_13, li_14, li_15, li_16, li_17, li_18, li_19, li_20, li_21, li_22, li_23, li_24, li_25, li_26, li_27, li_28, li_29, li_30, li_31, li_32, li_33, li_34, li_35, li_36, li_37, li_38, li_39, li_40, li_41, li_42, li_43, li_44, li_45, li_46, li_47, li_48, li_49, li_50, li_51, li_52, li_53, li_54, li_55, li_56, li_57, li_58, li_59, li_60, li_61, li_62, li_63, li_64, li_65, li_66, li_67, li_68, li_69, li_75, li_97, li_99, li_100, li_101, li_102, li_120, li_122, li_127, li_139, li_187, li_222, li_223, li_224, li_225, li_226, li_255, li_256, li_299, li_400, li_465, li_522, li_523, li_571, li_849, li_999, li_1000, li_1100, li_1371, li_1372, li_1420, li_1984, li_2220, li_5742, li_6264, li_9999, li_10000, li_12345, li_32767, li_65536, li_1000000, li_252645135, li_858993459, li_1103515245, li_1431655765, dd_us, dd_un, dd_u_u, pk_us, pk_un, Bool.true_eq_false, Bool.false_eq_true, true_and, and_true, true_implies, false_implies, implies_true, not_true_eq_false, not_false_eq_true, ne_eq, forall_const, sdm, Nat.add_zero, Nat.zero_add, sb_m1n, nmn1, nmn2, nmn3, nmn4, nmn5, nmn6, bI_0n, bI_1n, ck_and, im_t, im_f, if_pos, if_neg, hR2.g, bI_t]
            refine ⟨fun q2 => ?_, fun q2 => ?_⟩
            · simp only [if_pos q2] at ih'
              refine M_tells (by omega) hR2 og (by omega) (by omega) fun I3 hR3 hF3 => ?_
              exact ih' I3 hR3 (hF12.trans hF3)
            · simp only [if_neg q2] at ih'
              exact ih' I2 hR2 hF12
          | false =>
            have eg : oneG cm w1 i = stry (gbW w1 i (w1 (139 + 8 * w1 (187 + 5 * i + 1) + w1 7))) i := by
              unfold oneG
              rw [en, hg, hcm]
              rfl
            rw [eg] at ih'
            rw [hcm] at ih'
            simp (disch := omega) only [nI_add, pk_mul, tn, nI_clamp, nI_eq, nI_leI, nI_ltI, pk_sub, pk_div, pk_rem, nI_nm, nI_nm2, nI_nle1, nI_nlt1, nI_le1, nI_lt1, li_0, li_1, li_2, li_3, li_4, li_5, li_6, li_7, li_8, li_9, li_10, li_11, li_12, li_13, li_14, li_15, li_16, li_17, li_18, li_19, li_20, li_21, li_22, li_23, li_24, li_25, li_26, li_27, li_28, li_29, li_30, li_31, li_32, li_33, li_34, li_35, li_36, li_37, li_38, li_39, li_40, li_41, li_42, li_43, li_44, li_45, li_46, li_47, li_48, li_49, li_50, li_51, li_52, li_53, li_54, li_55, li_56, li_57, li_58, li_59, li_60, li_61, li_62, li_63, li_64, li_65, li_66, li_67, li_68, li_69, li_75, li_97, li_99, li_100, li_101, li_102, li_120, li_122, li_127, li_139, li_187, li_222, li_223, li_224, li_225, li_226, li_255, li_256, li_299, li_400, li_465, li_522, li_523, li_571, li_849, li_999, li_1000, li_1100, li_1371, li_1372, li_1420, li_1984, li_2220, li_5742, li_6264, li_9999, li_10000, li_12345, li_32767, li_65536, li_1000000, li_252645135, li_858993459, li_1103515245, li_1431655765, dd_us, dd_un, dd_u_u, pk_us, pk_un, Bool.true_eq_false, Bool.false_eq_true, true_and, and_true, true_implies, false_implies, implies_true, not_true_eq_false, not_false_eq_true, ne_eq, forall_const, sdm, Nat.add_zero, Nat.zero_add, sb_m1n, nmn1, nmn2, nmn3, nmn4, nmn5, nmn6, bI_0n, bI_1n, ck_and, im_t, im_f, if_pos, if_neg, hR2.g, bI_t, bI_f]
            refine M_strays (by omega) hR2 og (by omega) fun I3 hR3 hF3 => ?_
            have os := okW_stry og (b := i) (by omega)
            have osb := (os.2.2.2.1 i (by omega)).2.2.2.2.1
            simp (disch := omega) only [nI_add, pk_mul, tn, nI_clamp, nI_eq, nI_leI, nI_ltI, pk_sub, pk_div, pk_rem, nI_nm, nI_nm2, nI_nle1, nI_nlt1, nI_le1, nI_lt1, li_0, li_1, li_2, li_3, li_4, li_5, li_6, li_7, li_8, li_9, li_10, li_11, li_12, li_13, li_14, li_15, li_16, li_17, li_18, li_19, li_20, li_21, li_22, li_23, li_24, li_25, li_26, li_27, li_28, li_29, li_30, li_31, li_32, li_33, li_34, li_35, li_36, li_37, li_38, li_39, li_40, li_41, li_42, li_43, li_44, li_45, li_46, li_47, li_48, li_49, li_50, li_51, li_52, li_53, li_54, li_55, li_56, li_57, li_58, li_59, li_60, li_61, li_62, li_63, li_64, li_65, li_66, li_67, li_68, li_69, li_75, li_97, li_99, li_100, li_101, li_102, li_120, li_122, li_127, li_139, li_187, li_222, li_223, li_224, li_225, li_226, li_255, li_256, li_299, li_400, li_465, li_522, li_523, li_571, li_849, li_999, li_1000, li_1100, li_1371, li_1372, li_1420, li_1984, li_2220, li_5742, li_6264, li_9999, li_10000, li_12345, li_32767, li_65536, li_1000000, li_252645135, li_858993459, li_1103515245, li_1431655765, dd_us, dd_un, dd_u_u, pk_us, pk_un, Bool.true_eq_false, Bool.false_eq_true, true_and, and_true, true_implies, false_implies, implies_true, not_true_eq_false, not_false_eq_true, ne_eq, forall_const, sdm, Nat.add_zero, Nat.zero_add, sb_m1n, nmn1, nmn2, nmn3, nmn4, nmn5, nmn6, bI_0n, bI_1n, ck_and, im_t, im_f, if_pos, if_neg, hR3.g]
            have hF13 := hF12.trans hF3
            refine ⟨fun q2 => ?_, fun q2 => ?_⟩
            · simp only [if_pos q2] at ih'
              refine M_tells (by omega) hR3 os (by omega) (by omega) fun I4 hR4 hF4 => ?_
              exact ih' I4 hR4 (hF13.trans hF4)
            · simp only [if_neg q2] at ih'
              exact ih' I3 hR3 hF13
  exact key I hR (FR.refl I)
theorem M_goesOn {d Ln c s : Nat} {I : Nat → Nat → Int32} {L : Nat → Nat → Int64} {K : Int32 → (Nat → Nat → Int32) → (Nat → Nat → Int64) → Prop} {w : Nat → Nat} {n : Nat} {cm : Bool} (hd : 36 ≤ d) (hR : RM w I) (hO : OKW w) (hn : n ≤ 120) (k : ∀ I', RM (goA cm w n).1 I' → FW I I' → K (nI (goA cm w n).2) I' L) : dd_Ev d m_X11_goesOn [.ref 148, .int (nI n), .int (bI cm)] (sM Ln I L c s) (dd_RI Ln c s K) := by
  refine w_X11_goesOn_0 (by omega) ?_
  have key : ∀ I', RM (goA cm w 0).1 I' → FW I I' → dd_Rn d m_X11_goesOn (5, [.ref 148, .int (nI n), .int (bI cm), .int (nI (goA cm w 0).2), .int (nI 0)], [], sM Ln I' L c s) (dd_RI Ln c s K) := by
    refine dd_lp (fun i => ∀ I', RM (goA cm w i).1 I' → FW I I' → dd_Rn d m_X11_goesOn (5, [.ref 148, .int (nI n), .int (bI cm), .int (nI (goA cm w i).2), .int (nI i)], [], sM Ln I' L c s) (dd_RI Ln c s K)) n ?_ ?_
    · intro I1 hR1 hF1
      refine w_X11_goesOn_5 (by omega) ?_
      simp (disch := omega) only [nI_add, pk_mul, tn, nI_clamp, nI_eq, nI_leI, nI_ltI, pk_sub, pk_div, pk_rem, nI_nm, nI_nm2, nI_nle1, nI_nlt1, nI_le1, nI_lt1, li_0, li_1, li_2, li_3, li_4, li_5, li_6, li_7, li_8, li_9, li_10, li_11, li_12, li_13, li_14, li_15, li_16, li_17, li_18, li_19, li_20, li_21, li_22, li_23, li_24, li_25, li_26, li_27, li_28, li_29, li_30, li_31, li_32, li_33, li_34, li_35, li_36, li_37, li_38, li_39, li_40, li_41, li_42, li_43, li_44, li_45, li_46, li_47, li_48, li_49, li_50, li_51, li_52, li_53, li_54, li_55, li_56, li_57, li_58, li_59, li_60, li_61, li_62, li_63, li_64, li_65, li_66, li_67, li_68, li_69, li_75, li_97, li_99, li_100, li_101, li_102, li_120, li_122, li_127, li_139, li_187, li_222, li_223, li_224, li_225, li_226, li_255, li_256, li_299, li_400, li_465, li_522, li_523, li_571, li_849, li_999, li_1000, li_1100, li_1371, li_1372, li_1420, li_1984, li_2220, li_5742, li_6264, li_9999, li_10000, li_12345, li_32767, li_65536, li_1000000, li_252645135, li_858993459, li_1103515245, li_1431655765, dd_us, dd_un, dd_u_u, pk_us, pk_un, Bool.true_eq_false, Bool.false_eq_true, true_and, and_true, true_implies, false_implies, implies_true, not_true_eq_false, not_false_eq_true, ne_eq, forall_const, sdm, Nat.add_zero, Nat.zero_add, sb_m1n, nmn1, nmn2, nmn3, nmn4, nmn5, nmn6, bI_0n, bI_1n, ck_and, im_t, im_f, if_pos, if_neg]
      exact dd_qi (k I1 hR1 hF1)
    · intro i hi ih I1 hR1 hF1
      refine w_X11_goesOn_5 (by omega) ?_
      simp (disch := omega) only [nI_add, pk_mul, tn, nI_clamp, nI_eq, nI_leI, nI_ltI, pk_sub, pk_div, pk_rem, nI_nm, nI_nm2, nI_nle1, nI_nlt1, nI_le1, nI_lt1, li_0, li_1, li_2, li_3, li_4, li_5, li_6, li_7, li_8, li_9, li_10, li_11, li_12, li_13, li_14, li_15, li_16, li_17, li_18, li_19, li_20, li_21, li_22, li_23, li_24, li_25, li_26, li_27, li_28, li_29, li_30, li_31, li_32, li_33, li_34, li_35, li_36, li_37, li_38, li_39, li_40, li_41, li_42, li_43, li_44, li_45, li_46, li_47, li_48, li_49, li_50, li_51, li_52, li_53, li_54, li_55, li_56, li_57, li_58, li_59, li_60, li_61, li_62, li_63, li_64, li_65, li_66, li_67, li_68, li_69, li_75, li_97, li_99, li_100, li_101, li_102, li_120, li_122, li_127, li_139, li_187, li_222, li_223, li_224, li_225, li_226, li_255, li_256, li_299, li_400, li_465, li_522, li_523, li_571, li_849, li_999, li_1000, li_1100, li_1371, li_1372, li_1420, li_1984, li_2220, li_5742, li_6264, li_9999, li_10000, li_12345, li_32767, li_65536, li_1000000, li_252645135, li_858993459, li_1103515245, li_1431655765, dd_us, dd_un, dd_u_u, pk_us, pk_un, Bool.true_eq_false, Bool.false_eq_true, true_and, and_true, true_implies, false_implies, implies_true, not_true_eq_false, not_false_eq_true, ne_eq, forall_const, sdm, Nat.add_zero, Nat.zero_add, sb_m1n, nmn1, nmn2, nmn3, nmn4, nmn5, nmn6, bI_0n, bI_1n, ck_and, im_t, im_f, if_pos, if_neg]
      refine M_oneBeat (by omega) hR1 (goA_ok hO i).1 fun I2 hR2 hF2 => ?_
      simp (disch := omega) only [nI_add, pk_mul, tn, nI_clamp, nI_eq, nI_leI, nI_ltI, pk_sub, pk_div, pk_rem, nI_nm, nI_nm2, nI_nle1, nI_nlt1, nI_le1, nI_lt1, li_0, li_1, li_2, li_3, li_4, li_5, li_6, li_7, li_8, li_9, li_10, li_11, li_12, li_13, li_14, li_15, li_16, li_17, li_18, li_19, li_20, li_21, li_22, li_23, li_24, li_25, li_26, li_27, li_28, li_29, li_30, li_31, li_32, li_33, li_34, li_35, li_36, li_37, li_38, li_39, li_40, li_41, li_42, li_43, li_44, li_45, li_46, li_47, li_48, li_49, li_50, li_51, li_52, li_53, li_54, li_55, li_56, li_57, li_58, li_59, li_60, li_61, li_62, li_63, li_64, li_65, li_66, li_67, li_68, li_69, li_75, li_97, li_99, li_100, li_101, li_102, li_120, li_122, li_127, li_139, li_187, li_222, li_223, li_224, li_225, li_226, li_255, li_256, li_299, li_400, li_465, li_522, li_523, li_571, li_849, li_999, li_1000, li_1100, li_1371, li_1372, li_1420, li_1984, li_2220, li_5742, li_6264, li_9999, li_10000, li_12345, li_32767, li_65536, li_1000000, li_252645135, li_858993459, li_1103515245, li_1431655765, dd_us, dd_un, dd_u_u, pk_us, pk_un, Bool.true_eq_false, Bool.false_eq_true, true_and, and_true, true_implies, false_implies, implies_true, not_true_eq_false, not_false_eq_true, ne_eq, forall_const, sdm, Nat.add_zero, Nat.zero_add, sb_m1n, nmn1, nmn2, nmn3, nmn4, nmn5, nmn6, bI_0n, bI_1n]
      exact ih I2 hR2 (hF1.trans hF2)
  exact key I hR (FR.refl I)
theorem M_keepsAll {d Ln c s : Nat} {I : Nat → Nat → Int32} {L : Nat → Nat → Int64} {K : (Nat → Nat → Int32) → (Nat → Nat → Int64) → Prop} {w : Nat → Nat} (hd : 28 ≤ d) (hR : RM w I) (k : ∀ f, (∀ j, j < 522 → f j = nI (w j)) → K (dd_u I 152 f) L) : dd_Ev d m_X11_keepsAll [.ref 148] (sM Ln I L c s) (dd_RV Ln c s K) := by
  refine w_X11_keepsAll_0 hd ?_
  have key : ∀ f, (∀ j, j < 0 → f j = nI (w j)) → dd_Rn d m_X11_keepsAll (2, [.ref 148, .int (nI 0)], [], sM Ln (dd_u I 152 f) L c s) (dd_RV Ln c s K) := by
    refine dd_lp (fun i => ∀ f, (∀ j, j < i → f j = nI (w j)) → dd_Rn d m_X11_keepsAll (2, [.ref 148, .int (nI i)], [], sM Ln (dd_u I 152 f) L c s) (dd_RV Ln c s K)) 522 ?_ ?_
    · intro f hf
      refine w_X11_keepsAll_2 hd ?_
      simp (disch := omega) only [nI_add, pk_mul, tn, nI_clamp, nI_eq, nI_leI, nI_ltI, pk_sub, pk_div, pk_rem, nI_nm, nI_nm2, nI_nle1, nI_nlt1, nI_le1, nI_lt1, li_0, li_1, li_2, li_3, li_4, li_5, li_6, li_7, li_8, li_9, li_10, li_11, li_12, li_13, li_14, li_15, li_16, li_17, li_18, li_19, li_20, li_21, li_22, li_23, li_24, li_25, li_26, li_27, li_28, li_29, li_30, li_31, li_32, li_33, li_34, li_35, li_36, li_37, li_38, li_39, li_40, li_41, li_42, li_43, li_44, li_45, li_46, li_47, li_48, li_49, li_50, li_51, li_52, li_53, li_54, li_55, li_56, li_57, li_58, li_59, li_60, li_61, li_62, li_63, li_64, li_65, li_66, li_67, li_68, li_69, li_75, li_97, li_99, li_100, li_101, li_102, li_120, li_122, li_127, li_139, li_187, li_222, li_223, li_224, li_225, li_226, li_255, li_256, li_299, li_400, li_465, li_522, li_523, li_571, li_849, li_999, li_1000, li_1100, li_1371, li_1372, li_1420, li_1984, li_2220, li_5742, li_6264, li_9999, li_10000, li_12345, li_32767, li_65536, li_1000000, li_252645135, li_858993459, li_1103515245, li_1431655765, dd_us, dd_un, dd_u_u, pk_us, pk_un, Bool.true_eq_false, Bool.false_eq_true, true_and, and_true, true_implies, false_implies, implies_true, not_true_eq_false, not_false_eq_true, ne_eq, forall_const, sdm, Nat.add_zero, Nat.zero_add, sb_m1n, nmn1, nmn2, nmn3, nmn4, nmn5, nmn6, bI_0n, bI_1n, ck_and, im_t, im_f, if_pos, if_neg]
      exact dd_qV (k f hf)
    · intro i hi ih f hf
      refine w_X11_keepsAll_2 hd ?_
      simp (disch := omega) only [nI_add, pk_mul, tn, nI_clamp, nI_eq, nI_leI, nI_ltI, pk_sub, pk_div, pk_rem, nI_nm, nI_nm2, nI_nle1, nI_nlt1, nI_le1, nI_lt1, li_0, li_1, li_2, li_3, li_4, li_5, li_6, li_7, li_8, li_9, li_10, li_11, li_12, li_13, li_14, li_15, li_16, li_17, li_18, li_19, li_20, li_21, li_22, li_23, li_24, li_25, li_26, li_27, li_28, li_29, li_30, li_31, li_32, li_33, li_34, li_35, li_36, li_37, li_38, li_39, li_40, li_41, li_42, li_43, li_44, li_45, li_46, li_47, li_48, li_49, li_50, li_51, li_52, li_53, li_54, li_55, li_56, li_57, li_58, li_59, li_60, li_61, li_62, li_63, li_64, li_65, li_66, li_67, li_68, li_69, li_75, li_97, li_99, li_100, li_101, li_102, li_120, li_122, li_127, li_139, li_187, li_222, li_223, li_224, li_225, li_226, li_255, li_256, li_299, li_400, li_465, li_522, li_523, li_571, li_849, li_999, li_1000, li_1100, li_1371, li_1372, li_1420, li_1984, li_2220, li_5742, li_6264, li_9999, li_10000, li_12345, li_32767, li_65536, li_1000000, li_252645135, li_858993459, li_1103515245, li_1431655765, dd_us, dd_un, dd_u_u, pk_us, pk_un, Bool.true_eq_false, Bool.false_eq_true, true_and, and_true, true_implies, false_implies, implies_true, not_true_eq_false, not_false_eq_true, ne_eq, forall_const, sdm, Nat.add_zero, Nat.zero_add, sb_m1n, nmn1, nmn2, nmn3, nmn4, nmn5, nmn6, bI_0n, bI_1n, ck_and, im_t, im_f, if_pos, if_neg, hR.g]
      refine ih _ (lt_s (fun a ha => ?_) pk_us)
      rw [pk_un (by omega)]
      exact hf a ha
  have := key (I 152) (fun j hj => absurd hj (Nat.not_lt_zero j))
  rw [dd_u_id] at this
  exact this
theorem M_bringsBack {d Ln c s : Nat} {I : Nat → Nat → Int32} {L : Nat → Nat → Int64} {K : (Nat → Nat → Int32) → (Nat → Nat → Int64) → Prop} {w w0 : Nat → Nat} (hd : 28 ≤ d) (hR : RM w I) (hT : ∀ j, j < 522 → I 152 j = nI (w0 j)) (hL : ∀ j, 522 ≤ j → w j = w0 j) (k : ∀ f, RM w0 (dd_u I 149 f) → K (dd_u I 149 f) L) : dd_Ev d m_X11_bringsBack [.ref 148] (sM Ln I L c s) (dd_RV Ln c s K) := by
  refine w_X11_bringsBack_0 hd ?_
  have key : ∀ f, (∀ j, j < 0 ∨ (522 ≤ j ∧ j < 1371) → f j = nI (w0 j)) → dd_Rn d m_X11_bringsBack (2, [.ref 148, .int (nI 0)], [], sM Ln (dd_u I 149 f) L c s) (dd_RV Ln c s K) := by
    refine dd_lp (fun i => ∀ f, (∀ j, j < i ∨ (522 ≤ j ∧ j < 1371) → f j = nI (w0 j)) → dd_Rn d m_X11_bringsBack (2, [.ref 148, .int (nI i)], [], sM Ln (dd_u I 149 f) L c s) (dd_RV Ln c s K)) 522 ?_ ?_
    · intro f hf
      refine w_X11_bringsBack_2 hd ?_
      simp (disch := omega) only [nI_add, pk_mul, tn, nI_clamp, nI_eq, nI_leI, nI_ltI, pk_sub, pk_div, pk_rem, nI_nm, nI_nm2, nI_nle1, nI_nlt1, nI_le1, nI_lt1, li_0, li_1, li_2, li_3, li_4, li_5, li_6, li_7, li_8, li_9, li_10, li_11, li_12, li_13, li_14, li_15, li_16, li_17, li_18, li_19, li_20, li_21, li_22, li_23, li_24, li_25, li_26, li_27, li_28, li_29, li_30, li_31, li_32, li_33, li_34, li_35, li_36, li_37, li_38, li_39, li_40, li_41, li_42, li_43, li_44, li_45, li_46, li_47, li_48, li_49, li_50, li_51, li_52, li_53, li_54, li_55, li_56, li_57, li_58, li_59, li_60, li_61, li_62, li_63, li_64, li_65, li_66, li_67, li_68, li_69, li_75, li_97, li_99, li_100, li_101, li_102, li_120, li_122, li_127, li_139, li_187, li_222, li_223, li_224, li_225, li_226, li_255, li_256, li_299, li_400, li_465, li_522, li_523, li_571, li_849, li_999, li_1000, li_1100, li_1371, li_1372, li_1420, li_1984, li_2220, li_5742, li_6264, li_9999, li_10000, li_12345, li_32767, li_65536, li_1000000, li_252645135, li_858993459, li_1103515245, li_1431655765, dd_us, dd_un, dd_u_u, pk_us, pk_un, Bool.true_eq_false, Bool.false_eq_true, true_and, and_true, true_implies, false_implies, implies_true, not_true_eq_false, not_false_eq_true, ne_eq, forall_const, sdm, Nat.add_zero, Nat.zero_add, sb_m1n, nmn1, nmn2, nmn3, nmn4, nmn5, nmn6, bI_0n, bI_1n, ck_and, im_t, im_f, if_pos, if_neg]
      exact dd_qV (k f (RM.set (fun j hj => hf j (by omega))))
    · intro i hi ih f hf
      refine w_X11_bringsBack_2 hd ?_
      simp (disch := omega) only [nI_add, pk_mul, tn, nI_clamp, nI_eq, nI_leI, nI_ltI, pk_sub, pk_div, pk_rem, nI_nm, nI_nm2, nI_nle1, nI_nlt1, nI_le1, nI_lt1, li_0, li_1, li_2, li_3, li_4, li_5, li_6, li_7, li_8, li_9, li_10, li_11, li_12, li_13, li_14, li_15, li_16, li_17, li_18, li_19, li_20, li_21, li_22, li_23, li_24, li_25, li_26, li_27, li_28, li_29, li_30, li_31, li_32, li_33, li_34, li_35, li_36, li_37, li_38, li_39, li_40, li_41, li_42, li_43, li_44, li_45, li_46, li_47, li_48, li_49, li_50, li_51, li_52, li_53, li_54, li_55, li_56, li_57, li_58, li_59, li_60, li_61, li_62, li_63, li_64, li_65, li_66, li_67, li_68, li_69, li_75, li_97, li_99, li_100, li_101, li_102, li_120, li_122, li_127, li_139, li_187, li_222, li_223, li_224, li_225, li_226, li_255, li_256, li_299, li_400, li_465, li_522, li_523, li_571, li_849, li_999, li_1000, li_1100, li_1371, li_1372, li_1420, li_1984, li_2220, li_5742, li_6264, li_9999, li_10000, li_12345, li_32767, li_65536, li_1000000, li_252645135, li_858993459, li_1103515245, li_1431655765, dd_us, dd_un, dd_u_u, pk_us, pk_un, Bool.true_eq_false, Bool.false_eq_true, true_and, and_true, true_implies, false_implies, implies_true, not_true_eq_false, not_false_eq_true, ne_eq, forall_const, sdm, Nat.add_zero, Nat.zero_add, sb_m1n, nmn1, nmn2, nmn3, nmn4, nmn5, nmn6, bI_0n, bI_1n, ck_and, im_t, im_f, if_pos, if_neg, hT]
      refine ih _ fun j hj => ?_
      by_cases e : j = i
      · subst e; rw [pk_us]
      · rw [pk_un e]
        exact hf j (by omega)
  have := key (I 149) (fun j hj => by rw [hR j (by omega), hL j (by omega)])
  rw [dd_u_id] at this
  exact this
