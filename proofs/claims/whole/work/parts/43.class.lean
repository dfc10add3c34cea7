/-! The class: coming in; hearing now -/
theorem C_comesIn {d Ln c s : Nat} {I : Nat → Nat → Int32} {L : Nat → Nat → Int64} {K : Int32 → (Nat → Nat → Int32) → (Nat → Nat → Int64) → Prop} {w : Nat → Nat} {k num part ear bad beat loud cell : Nat} {row : Nat → Nat} (hd : 32 ≤ d) (hk : k = 133 ∨ k = 136) (hC : RC w I L) (hO : OKW w) (hL : RLw w I) (hV : RV k num part ear bad beat loud row cell (w 4) I) (h0 : num ≤ 6) (h1 : part < 6) (h2 : ear ≤ 15) (h6 : bad ≤ 99) (h7 : beat < 8) (hl : loud ≤ 15) (hc : cell < 64) (hr : ∀ j, j < 8 → row j ≤ 9) (kk : ∀ I', FV k I I' → K (oI (frst (fun n => decide (wk w num part ear bad loud row beat cell n = w 4)) 101)) I' L) : dd_Ev d m_X6_comesIn [.ref k] (sM Ln I L c s) (dd_RI Ln c s K) := by
  have h4 := hO.1.2.2.2.1
  refine w_X6_comesIn_0 (by omega) hk ?_
  have key : ∀ I', RV k num part ear bad ((beat + 0) % 8) loud row (wk w num part ear bad loud row beat cell 0) (w 4) I' → FV k I I' → (∀ m, m < 0 → wk w num part ear bad loud row beat cell m ≠ w 4) → dd_Rn d m_X6_comesIn (4, [.ref k, .int (if 0 = 0 then -1 else nI (wk w num part ear bad loud row beat cell (8 * ((0 - 1) / 8)))), .int (nI 0)], [], sM Ln I' L c s) (dd_RI Ln c s K) := by
    refine dd_lp (fun n => ∀ I', RV k num part ear bad ((beat + n) % 8) loud row (wk w num part ear bad loud row beat cell n) (w 4) I' → FV k I I' → (∀ m, m < n → wk w num part ear bad loud row beat cell m ≠ w 4) → dd_Rn d m_X6_comesIn (4, [.ref k, .int (if n = 0 then -1 else nI (wk w num part ear bad loud row beat cell (8 * ((n - 1) / 8)))), .int (nI n)], [], sM Ln I' L c s) (dd_RI Ln c s K)) 101 ?_ ?_
    · intro I1 v1 f1 nf
      refine w_X6_comesIn_4 (by omega) hk ?_
      simp (disch := omega) only [nI_add, pk_mul, tn, nI_clamp, nI_eq, nI_leI, nI_ltI, pk_sub, pk_div, pk_rem, nI_nm, nI_nm2, nI_nle1, nI_nlt1, nI_le1, nI_lt1, li_0, li_1, li_2, li_3, li_4, li_5, li_6, li_7, li_8, li_9, li_10, li_11, li_12, li_13, li_14, li_15, li_16, li_17, li_18, li_19, li_20, li_21, li_22, li_23, li_24, li_25, li_26, li_27, li_28, li_29, li_30, li_31, li_32, li_33, li_34, li_35, li_36, li_37, li_38, li_39, li_40, li_41, li_42, li_43, li_44, li_45, li_46, li_47, li_48, li_49, li_50, li_51, li_52, li_53, li_54, li_55, li_56, li_57, li_58, li_59, li_60, li_61, li_62, li_63, li_64, li_65, li_66, li_67, li_68, li_69, li_75, li_97, li_99, li_100, li_101, li_102, li_120, li_122, li_127, li_139, li_187, li_222, li_223, li_224, li_225, li_226, li_255, li_256, li_299, li_400, li_465, li_522, li_523, li_571, li_849, li_999, li_1000, li_1100, li_1371, li_1372, li_1420, li_1984, li_2220, li_5742, li_6264, li_9999, li_10000, li_12345, li_32767, li_65536, li_1000000, li_252645135, li_858993459, li_1103515245, li_1431655765, dd_us, dd_un, dd_u_u, pk_us, pk_un, Bool.true_eq_false, Bool.false_eq_true, true_and, and_true, true_implies, false_implies, implies_true, not_true_eq_false, not_false_eq_true, ne_eq, forall_const, sdm, Nat.add_zero, Nat.zero_add, sb_m1n, nmn1, nmn2, nmn3, nmn4, nmn5, nmn6, bI_0n, bI_1n, ck_and, im_t, im_f, if_pos, if_neg]
      have kx := kk I1 f1
      rw [frst_none (fun i hi => decide_eq_false (nf i hi))] at kx
      exact dd_qi kx
    · intro n hn ih I1 v1 f1 nf
      have hC1 := hC.fr f1 (kA hk)
      have hL1 := hL.fr f1 (kA26 hk)
      have wl := wk_lt (w := w) (num := num) (part := part) (ear := ear) (bad := bad) (loud := loud) (row := row) (t0 := beat) hc n
      have wl2 := wk_lt (w := w) (num := num) (part := part) (ear := ear) (bad := bad) (loud := loud) (row := row) (t0 := beat) hc (8 * ((n - 1) / 8))
      have vc := v1.2.2.2.2
      have kx := kk I1 f1
      have go : ∀ bf : Int32, bf = nI (wk w num part ear bad loud row beat cell (8 * (n / 8))) → ¬ wk w num part ear bad loud row beat cell n = w 4 → dd_Ev (d - 1) m_X6_beatAhead [.ref k] (sM Ln I1 L c s) (dd_RV Ln c s (fun I2 L2 => dd_Rn d m_X6_comesIn (4, [.ref k, .int bf, .int (nI (n + 1))], [], sM Ln I2 L2 c s) (dd_RI Ln c s K))) := by
        intro bf hbf hnf
        refine C_beatAhead (by omega) hk hC1 hO hL1 v1 h0 h1 h2 h6 (by omega) hl wl hr fun I2 v2 f2 => ?_
        have e1 : ((beat + n) % 8 + 1) % 8 = (beat + (n + 1)) % 8 := by omega
        rw [e1] at v2
        have := ih I2 v2 (f1.trans f2) (lt_s nf hnf)
        rw [if_neg (by omega), show n + 1 - 1 = n by omega] at this
        rw [hbf]
        exact this
      refine w_X6_comesIn_4 (by omega) hk ?_
      simp (disch := omega) only [nI_add, pk_mul, tn, nI_clamp, nI_eq, nI_leI, nI_ltI, pk_sub, pk_div, pk_rem, nI_nm, nI_nm2, nI_nle1, nI_nlt1, nI_le1, nI_lt1, li_0, li_1, li_2, li_3, li_4, li_5, li_6, li_7, li_8, li_9, li_10, li_11, li_12, li_13, li_14, li_15, li_16, li_17, li_18, li_19, li_20, li_21, li_22, li_23, li_24, li_25, li_26, li_27, li_28, li_29, li_30, li_31, li_32, li_33, li_34, li_35, li_36, li_37, li_38, li_39, li_40, li_41, li_42, li_43, li_44, li_45, li_46, li_47, li_48, li_49, li_50, li_51, li_52, li_53, li_54, li_55, li_56, li_57, li_58, li_59, li_60, li_61, li_62, li_63, li_64, li_65, li_66, li_67, li_68, li_69, li_75, li_97, li_99, li_100, li_101, li_102, li_120, li_122, li_127, li_139, li_187, li_222, li_223, li_224, li_225, li_226, li_255, li_256, li_299, li_400, li_465, li_522, li_523, li_571, li_849, li_999, li_1000, li_1100, li_1371, li_1372, li_1420, li_1984, li_2220, li_5742, li_6264, li_9999, li_10000, li_12345, li_32767, li_65536, li_1000000, li_252645135, li_858993459, li_1103515245, li_1431655765, dd_us, dd_un, dd_u_u, pk_us, pk_un, Bool.true_eq_false, Bool.false_eq_true, true_and, and_true, true_implies, false_implies, implies_true, not_true_eq_false, not_false_eq_true, ne_eq, forall_const, sdm, Nat.add_zero, Nat.zero_add, sb_m1n, nmn1, nmn2, nmn3, nmn4, nmn5, nmn6, bI_0n, bI_1n, ck_and, im_t, im_f, if_pos, if_neg, vc, hC1.fire]
      refine ⟨fun q => ?_, fun q => ⟨fun q2 => ⟨fun q3 => ?_, fun q3 => ?_⟩, fun q2 => ?_⟩⟩
      · rw [frst_some (p := fun n => decide (wk w num part ear bad loud row beat cell n = w 4)) (decide_eq_true q) (fun i hi => decide_eq_false (nf i hi)) hn] at kx
        exact dd_qi kx
      · by_cases qn : n = 0
        · rw [if_pos qn] at q3
          rw [nmn1 (by omega)] at q3
          exact q3.elim
        · rw [if_neg qn, nI_eq (by omega) (by omega)] at q3
          have e8 : 8 * ((n - 1) / 8) + 8 = n := by omega
          have nv := wk_never (w := w) (num := num) (part := part) (ear := ear) (bad := bad) (loud := loud) (t0 := beat) (c0 := cell) (row := row) (n := 8 * ((n - 1) / 8)) (by rw [e8]; exact q3) (by rw [e8]; exact q)
          rw [frst_none (fun i _ => decide_eq_false (nv i))] at kx
          exact dd_qi kx
      · refine go _ ?_ q
        rw [show 8 * (n / 8) = n by omega]
      · refine go _ ?_ q
        rw [if_neg (by omega), show 8 * (n / 8) = 8 * ((n - 1) / 8) by omega]
  refine key I ?_ (FR.refl I) (fun m hm => absurd hm (Nat.not_lt_zero m))
  rw [Nat.add_zero, Nat.mod_eq_of_lt h7]
  exact hV
theorem C_hearsNow {d Ln c s : Nat} {I : Nat → Nat → Int32} {L : Nat → Nat → Int64} {K : Int32 → (Nat → Nat → Int32) → (Nat → Nat → Int64) → Prop} {w : Nat → Nat} {k num part ear bad beat loud cell : Nat} {row : Nat → Nat} (hd : 30 ≤ d) (hk : k = 133 ∨ k = 136) (hC : RC w I L) (hO : OKW w) (hL : RLw w I) (hV : RV k num part ear bad beat loud row cell (w 4) I) (h0 : num ≤ 6) (h1 : part < 6) (h2 : ear ≤ 15) (h6 : bad ≤ 99) (h7 : beat < 8) (hl : loud ≤ 15) (hc : cell < 64) (hr : ∀ j, j < 8 → row j ≤ 9) (kk : ∀ I', FR 25 [] [3, 4] I I' → K (bI (hrs w (vF num part ear bad beat cell (w 4)) loud (w (75 + cell)) (row beat))) I' L) : dd_Ev d m_X6_hearsNow [.ref k] (sM Ln I L c s) (dd_RI Ln c s K) := by
  have e7 : I (k + 1) 7 &&& 7 = nI beat := by rw [hV.1.2.2.2.2.1, and7 (by omega), Nat.mod_eq_of_lt h7]
  refine w_X6_hearsNow_0 (by omega) hk ?_
  rw [e7, show tn (nI beat) = beat from nI_clamp (by omega), hV.1.2.2.2.2.2.1 beat h7]
  refine ⟨⟨nI_pos' (by omega), h7⟩, ?_⟩
  refine C_hears (by omega) hk hC hO hL hV h0 h1 h2 h6 h7 hl hc (hr beat h7) fun I1 _ f1 => ?_
  exact ⟨bI_01 _, dd_qi (kk I1 f1)⟩
