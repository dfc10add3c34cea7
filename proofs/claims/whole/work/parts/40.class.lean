/-! The class: its wood -/
def pck (w : Nat → Nat) (a : Nat) : Nat := w (222 + 5 * a) * 8192 + w (222 + 5 * a + 1) * 1024 + w (222 + 5 * a + 2) * 128 + w (222 + 5 * a + 3) * 64 + w (222 + 5 * a + 4)
def RW (w : Nat → Nat) (I : Nat → Nat → Int32) (L : Nat → Nat → Int64) (k : Nat) : Prop :=
  (∀ c, c < 64 → bL (L k 0) c = decide (w (11 + c) = 1)) ∧ (∀ c, c < 64 → I (k + 1) c = nI (w (75 + c))) ∧ (∀ j, j < 48 → I (k + 2) j = nI (w (139 + j)))
  ∧ (∀ b, b < 6 → I (k + 3) b = nI (w (187 + 5 * b))) ∧ (∀ b, b < 6 → I (k + 4) b = nI (w (187 + 5 * b + 1))) ∧ (∀ b, b < 6 → I (k + 5) b = nI (w (187 + 5 * b + 2))) ∧ (∀ b, b < 6 → I (k + 6) b = nI (w (187 + 5 * b + 4)))
  ∧ (∀ i, i < 32 → bX (I k 12) i = (decide (i < 6) && decide (w (187 + 5 * i + 3) = 1)))
  ∧ (∀ a, a < w 9 → I (k + 7) (w 9 - 1 - a) = nI (pck w a))
  ∧ I k 8 = nI (w 9) ∧ I k 9 = nI (w 0) ∧ I k 10 = nI (w 1) ∧ I k 11 = nI (w 2) ∧ I k 13 = nI (w 4) ∧ I k 14 = nI (w 5) ∧ I k 15 = nI (w 6) ∧ I k 16 = nI (w 7) ∧ I k 17 = nI (w 8) ∧ I k 18 = nI (w 10)
abbrev RC (w : Nat → Nat) (I : Nat → Nat → Int32) (L : Nat → Nat → Int64) : Prop := RW w I L 1
theorem RW.tree {w : Nat → Nat} {I : Nat → Nat → Int32} {L : Nat → Nat → Int64} (h : RW w I L 1) {c : Nat} (hc : c < 64) : bL (L 1 0) c = decide (w (11 + c) = 1) := h.1 c hc
theorem RW.fern {w : Nat → Nat} {I : Nat → Nat → Int32} {L : Nat → Nat → Int64} (h : RW w I L 1) {c : Nat} (hc : c < 64) : I 2 c = nI (w (75 + c)) := h.2.1 c hc
theorem RW.note {w : Nat → Nat} {I : Nat → Nat → Int32} {L : Nat → Nat → Int64} (h : RW w I L 1) {j : Nat} (hj : j < 48) : I 3 j = nI (w (139 + j)) := h.2.2.1 j hj
theorem RW.cell {w : Nat → Nat} {I : Nat → Nat → Int32} {L : Nat → Nat → Int64} (h : RW w I L 1) {b : Nat} (hb : b < 6) : I 4 b = nI (w (187 + 5 * b)) := h.2.2.2.1 b hb
theorem RW.sung {w : Nat → Nat} {I : Nat → Nat → Int32} {L : Nat → Nat → Int64} (h : RW w I L 1) {b : Nat} (hb : b < 6) : I 5 b = nI (w (187 + 5 * b + 1)) := h.2.2.2.2.1 b hb
theorem RW.ear {w : Nat → Nat} {I : Nat → Nat → Int32} {L : Nat → Nat → Int64} (h : RW w I L 1) {b : Nat} (hb : b < 6) : I 6 b = nI (w (187 + 5 * b + 2)) := h.2.2.2.2.2.1 b hb
theorem RW.bad {w : Nat → Nat} {I : Nat → Nat → Int32} {L : Nat → Nat → Int64} (h : RW w I L 1) {b : Nat} (hb : b < 6) : I 7 b = nI (w (187 + 5 * b + 4)) := h.2.2.2.2.2.2.1 b hb
theorem RW.isin {w : Nat → Nat} {I : Nat → Nat → Int32} {L : Nat → Nat → Int64} (h : RW w I L 1) {i : Nat} (hi : i < 32) : bX (I 1 12) i = (decide (i < 6) && decide (w (187 + 5 * i + 3) = 1)) := h.2.2.2.2.2.2.2.1 i hi
theorem RW.row {w : Nat → Nat} {I : Nat → Nat → Int32} {L : Nat → Nat → Int64} (h : RW w I L 1) {a : Nat} (ha : a < w 9) : I 8 (w 9 - 1 - a) = nI (pck w a) := h.2.2.2.2.2.2.2.2.1 a ha
theorem RW.rows {w : Nat → Nat} {I : Nat → Nat → Int32} {L : Nat → Nat → Int64} (h : RW w I L 1) : I 1 8 = nI (w 9) := h.2.2.2.2.2.2.2.2.2.1
theorem RW.parts {w : Nat → Nat} {I : Nat → Nat → Int32} {L : Nat → Nat → Int64} (h : RW w I L 1) : I 1 9 = nI (w 0) := h.2.2.2.2.2.2.2.2.2.2.1
theorem RW.boys {w : Nat → Nat} {I : Nat → Nat → Int32} {L : Nat → Nat → Int64} (h : RW w I L 1) : I 1 10 = nI (w 1) := h.2.2.2.2.2.2.2.2.2.2.2.1
theorem RW.texts {w : Nat → Nat} {I : Nat → Nat → Int32} {L : Nat → Nat → Int64} (h : RW w I L 1) : I 1 11 = nI (w 2) := h.2.2.2.2.2.2.2.2.2.2.2.2.1
theorem RW.fire {w : Nat → Nat} {I : Nat → Nat → Int32} {L : Nat → Nat → Int64} (h : RW w I L 1) : I 1 13 = nI (w 4) := h.2.2.2.2.2.2.2.2.2.2.2.2.2.1
theorem RW.loud {w : Nat → Nat} {I : Nat → Nat → Int32} {L : Nat → Nat → Int64} (h : RW w I L 1) : I 1 14 = nI (w 5) := h.2.2.2.2.2.2.2.2.2.2.2.2.2.2.1
theorem RW.stray {w : Nat → Nat} {I : Nat → Nat → Int32} {L : Nat → Nat → Int64} (h : RW w I L 1) : I 1 15 = nI (w 6) := h.2.2.2.2.2.2.2.2.2.2.2.2.2.2.2.1
theorem RW.beat {w : Nat → Nat} {I : Nat → Nat → Int32} {L : Nat → Nat → Int64} (h : RW w I L 1) : I 1 16 = nI (w 7) := h.2.2.2.2.2.2.2.2.2.2.2.2.2.2.2.2.1
theorem RW.night {w : Nat → Nat} {I : Nat → Nat → Int32} {L : Nat → Nat → Int64} (h : RW w I L 1) : I 1 17 = nI (w 8) := h.2.2.2.2.2.2.2.2.2.2.2.2.2.2.2.2.2.1
theorem RW.seed {w : Nat → Nat} {I : Nat → Nat → Int32} {L : Nat → Nat → Int64} (h : RW w I L 1) : I 1 18 = nI (w 10) := h.2.2.2.2.2.2.2.2.2.2.2.2.2.2.2.2.2.2
theorem RW.of {w : Nat → Nat} {I I' : Nat → Nat → Int32} {L L' : Nat → Nat → Int64} {k : Nat} (h : RW w I L k) (hI : ∀ j, k ≤ j → j < k + 8 → I' j = I j) (hL : L' k = L k) : RW w I' L' k := by
  unfold RW at *
  rw [hL, hI k (by omega) (by omega), hI (k + 1) (by omega) (by omega), hI (k + 2) (by omega) (by omega), hI (k + 3) (by omega) (by omega), hI (k + 4) (by omega) (by omega), hI (k + 5) (by omega) (by omega), hI (k + 6) (by omega) (by omega), hI (k + 7) (by omega) (by omega)]
  exact h
theorem shr3n {n : Nat} (h : n < 2 ^ 31) : nI n >>> (nI 3 &&& nI 31) = nI (n / 8) := shr3 h
theorem and7n {n : Nat} (h : n < 2 ^ 32) : nI n &&& nI 7 = nI (n % 8) := and7 h
def opn (w : Nat → Nat) (n : Nat) : Bool := decide (n < 64) && !decide (w (11 + n) = 1)
theorem opn_t {w : Nat → Nat} {n : Nat} : opn w n = true ↔ n < 64 ∧ ¬ w (11 + n) = 1 := by
  unfold opn
  rw [Bool.and_eq_true, Bool.not_eq_true', decide_eq_true_eq, decide_eq_false_iff_not]
theorem opn_f {w : Nat → Nat} {n : Nat} (h : n < 64) : opn w n = false ↔ w (11 + n) = 1 := by
  unfold opn
  rw [decide_eq_true h, Bool.true_and, Bool.not_eq_false', decide_eq_true_eq]
theorem C_apart {d Ln c s : Nat} {I : Nat → Nat → Int32} {L : Nat → Nat → Int64} {K : Int32 → (Nat → Nat → Int32) → (Nat → Nat → Int64) → Prop} {a b : Nat} (hd : 28 ≤ d) (ha : a < 64) (hb : b < 64) (k : K (nI (gap a b)) I L) : dd_Ev d m_X8_apart [.int (nI a), .int (nI b)] (sM Ln I L c s) (dd_RI Ln c s K) := by
  refine w_X8_apart_0 hd ?_
  simp (disch := omega) only [and7, shr3]
  rw [abs_nI (by omega) (by omega), abs_nI (by omega) (by omega), nI_add]
  exact dd_qi k
theorem C_nearOf {d Ln c s : Nat} {I : Nat → Nat → Int32} {L : Nat → Nat → Int64} {K : Int32 → (Nat → Nat → Int32) → (Nat → Nat → Int64) → Prop} {w : Nat → Nat} {a : Nat} (hd : 29 ≤ d) (hC : RC w I L) (ha : a < 64) (h4 : w 4 < 64) (k : K (nI (gap a (w 4))) I L) : dd_Ev d m_X8_nearOf [.ref 1, .int (nI a)] (sM Ln I L c s) (dd_RI Ln c s K) := by
  refine w_X8_nearOf_0 (by omega) ?_
  rw [hC.fire]
  refine C_apart (by omega) ha h4 ?_
  exact dd_qi k
theorem C_isOpen {d Ln c s : Nat} {I : Nat → Nat → Int32} {L : Nat → Nat → Int64} {K : Int32 → (Nat → Nat → Int32) → (Nat → Nat → Int64) → Prop} {w : Nat → Nat} {n : Nat} (hd : 28 ≤ d) (hC : RC w I L) (hn : n < 2 ^ 31) (k : K (bI (opn w n)) I L) : dd_Ev d m_X8_isOpen [.ref 1, .int (nI n)] (sM Ln I L c s) (dd_RI Ln c s K) := by
  refine w_X8_isOpen_0 hd ?_
  simp (disch := omega) only [li_0, li_64, nI_ltI, nI_leI, Nat.not_lt_zero, Bool.true_eq_false, Bool.false_eq_true, true_and, and_true, true_implies, false_implies, implies_true, not_true_eq_false, not_false_eq_true, ne_eq, forall_const]
  refine ⟨fun q => ?_, fun q => ?_⟩
  · have e : opn w n = false := by unfold opn; rw [decide_eq_false (by omega)]; rfl
    rw [e] at k
    exact dd_qi k
  · have q' : n < 64 := by omega
    have e := hC.tree q'
    rw [← li_0, L_bit q', e]
    refine ⟨fun q2 => ?_, fun q2 => ?_⟩
    · rw [opn_t.mpr ⟨q', of_decide_eq_false q2⟩] at k
      exact dd_qi k
    · rw [(opn_f q').mpr (Decidable.of_not_not (fun q3 => q2 (decide_eq_false q3)))] at k
      exact dd_qi k
theorem C_isOpenM {d Ln c s : Nat} {I : Nat → Nat → Int32} {L : Nat → Nat → Int64} {K : Int32 → (Nat → Nat → Int32) → (Nat → Nat → Int64) → Prop} {a1 : Int32} (hd : 28 ≤ d) (hn : a1 < 0) (k : K 0 I L) : dd_Ev d m_X8_isOpen [.ref 1, .int a1] (sM Ln I L c s) (dd_RI Ln c s K) := by
  refine w_X8_isOpen_0 hd ⟨fun _ => dd_qi k, fun q => absurd hn q⟩
theorem C_isIn {d Ln c s : Nat} {I : Nat → Nat → Int32} {L : Nat → Nat → Int64} {K : Int32 → (Nat → Nat → Int32) → (Nat → Nat → Int64) → Prop} {w : Nat → Nat} {b : Nat} (hd : 28 ≤ d) (hC : RC w I L) (hb : b < 6) (k : K (bI (decide (w (187 + 5 * b + 3) = 1))) I L) : dd_Ev d m_X8_isIn [.ref 1, .int (nI b)] (sM Ln I L c s) (dd_RI Ln c s K) := by
  refine w_X8_isIn_0 hd ?_
  rw [X_bit (by omega), hC.isin (by omega), decide_eq_true hb, Bool.true_and]
  refine ⟨fun q => ?_, fun q => ?_⟩
  · rw [q] at k
    exact dd_qi k
  · rw [Bool.not_eq_false] at q
    rw [q] at k
    exact dd_qi k
theorem C_st79 {d Ln c s : Nat} {I : Nat → Nat → Int32} {L : Nat → Nat → Int64} {K : Int32 → (Nat → Nat → Int32) → (Nat → Nat → Int64) → Prop} {w : Nat → Nat} {c0 to r : Nat} {a2 : Int32} (hd : 29 ≤ d) (hC : RC w I L) (ht : to < 64) (hr : r = if w (11 + to) = 1 then c0 else to) (k : K (nI r) I L) : dd_Rn d m_X8_stepTo (79, [.ref 1, .int (nI c0), .int a2, .int (nI to)], [], sM Ln I L c s) (dd_RI Ln c s K) := by
  refine w_X8_stepTo_79 (by omega) ?_
  refine C_isOpen (by omega) hC (by omega) ?_
  simp only [bI_0]
  subst hr
  refine ⟨fun q => ?_, fun q => ?_⟩
  · rw [if_pos ((opn_f ht).mp q)] at k
    exact w_X8_stepTo_92 (by omega) (dd_qi k)
  · rw [if_neg (fun q2 => q ((opn_f ht).mpr q2))] at k
    exact w_X8_stepTo_92 (by omega) (dd_qi k)
theorem C_stepTo {d Ln c s : Nat} {I : Nat → Nat → Int32} {L : Nat → Nat → Int64} {K : Int32 → (Nat → Nat → Int32) → (Nat → Nat → Int64) → Prop} {w : Nat → Nat} {c0 side : Nat} (hd : 29 ≤ d) (hC : RC w I L) (hc : c0 < 64) (h4 : side ≤ 9) (k : K (nI (stp w c0 side)) I L) : dd_Ev d m_X8_stepTo [.ref 1, .int (nI c0), .int (nI side)] (sM Ln I L c s) (dd_RI Ln c s K) := by
  refine w_X8_stepTo_0 (by omega) ?_
  simp (disch := omega) only [nI_add, pk_mul, tn, nI_clamp, nI_eq, nI_leI, nI_ltI, pk_sub, pk_div, pk_rem, nI_nm, nI_nm2, nI_nle1, nI_nlt1, nI_le1, nI_lt1, li_0, li_1, li_2, li_3, li_4, li_5, li_6, li_7, li_8, li_9, li_10, li_11, li_12, li_13, li_14, li_15, li_16, li_17, li_18, li_19, li_20, li_21, li_22, li_23, li_24, li_25, li_26, li_27, li_28, li_29, li_30, li_31, li_32, li_33, li_34, li_35, li_36, li_37, li_38, li_39, li_40, li_41, li_42, li_43, li_44, li_45, li_46, li_47, li_48, li_49, li_50, li_51, li_52, li_53, li_54, li_55, li_56, li_57, li_58, li_59, li_60, li_61, li_62, li_63, li_64, li_65, li_66, li_67, li_68, li_69, li_75, li_97, li_99, li_100, li_101, li_102, li_120, li_122, li_127, li_139, li_187, li_222, li_223, li_224, li_225, li_226, li_255, li_256, li_299, li_400, li_465, li_522, li_523, li_571, li_849, li_999, li_1000, li_1100, li_1371, li_1372, li_1420, li_1984, li_2220, li_5742, li_6264, li_9999, li_10000, li_12345, li_32767, li_65536, li_1000000, li_252645135, li_858993459, li_1103515245, li_1431655765, dd_us, dd_un, dd_u_u, pk_us, pk_un, Bool.true_eq_false, Bool.false_eq_true, true_and, and_true, true_implies, false_implies, implies_true, not_true_eq_false, not_false_eq_true, ne_eq, forall_const, sdm, Nat.add_zero, Nat.zero_add, sb_m1n, nmn1, nmn2, nmn3, nmn4, nmn5, nmn6, bI_0n, bI_1n, shr3n, and7n]
  have hs : side = 1 ∨ side = 2 ∨ side = 3 ∨ side = 4 ∨ (side = 0 ∨ 4 < side) := by omega
  have same : ∀ r : Nat, (r = c0) → r = if w (11 + c0) = 1 then c0 else c0 := fun r hr => by rw [hr]; split <;> rfl
  rcases hs with rfl | rfl | rfl | rfl | q0
  · simp (disch := omega) only [Bool.true_eq_false, Bool.false_eq_true, true_and, and_true, true_implies, false_implies, implies_true, not_true_eq_false, not_false_eq_true, ne_eq, forall_const, ck_and, im_t, im_f, if_pos, if_neg]
    refine ⟨fun q => ?_, fun q => ?_⟩
    · refine w_X8_stepTo_63 (by omega) ?_
      simp (disch := omega) only [nI_add, pk_mul, tn, nI_clamp, nI_eq, nI_leI, nI_ltI, pk_sub, pk_div, pk_rem, nI_nm, nI_nm2, nI_nle1, nI_nlt1, nI_le1, nI_lt1, li_0, li_1, li_2, li_3, li_4, li_5, li_6, li_7, li_8, li_9, li_10, li_11, li_12, li_13, li_14, li_15, li_16, li_17, li_18, li_19, li_20, li_21, li_22, li_23, li_24, li_25, li_26, li_27, li_28, li_29, li_30, li_31, li_32, li_33, li_34, li_35, li_36, li_37, li_38, li_39, li_40, li_41, li_42, li_43, li_44, li_45, li_46, li_47, li_48, li_49, li_50, li_51, li_52, li_53, li_54, li_55, li_56, li_57, li_58, li_59, li_60, li_61, li_62, li_63, li_64, li_65, li_66, li_67, li_68, li_69, li_75, li_97, li_99, li_100, li_101, li_102, li_120, li_122, li_127, li_139, li_187, li_222, li_223, li_224, li_225, li_226, li_255, li_256, li_299, li_400, li_465, li_522, li_523, li_571, li_849, li_999, li_1000, li_1100, li_1371, li_1372, li_1420, li_1984, li_2220, li_5742, li_6264, li_9999, li_10000, li_12345, li_32767, li_65536, li_1000000, li_252645135, li_858993459, li_1103515245, li_1431655765, dd_us, dd_un, dd_u_u, pk_us, pk_un, Bool.true_eq_false, Bool.false_eq_true, true_and, and_true, true_implies, false_implies, implies_true, not_true_eq_false, not_false_eq_true, ne_eq, forall_const, sdm, Nat.add_zero, Nat.zero_add, sb_m1n, nmn1, nmn2, nmn3, nmn4, nmn5, nmn6, bI_0n, bI_1n, ck_and, im_t, im_f, if_pos, if_neg]
      exact C_st79 hd hC hc (same _ (stp1o (by omega))) k
    · rw [pk_sub (by omega)]
      exact C_st79 hd hC (by omega) (stp1 (by omega)) k
  · simp (disch := omega) only [Bool.true_eq_false, Bool.false_eq_true, true_and, and_true, true_implies, false_implies, implies_true, not_true_eq_false, not_false_eq_true, ne_eq, forall_const, ck_and, im_t, im_f, if_pos, if_neg]
    refine ⟨fun q => ?_, fun q => ?_⟩
    · refine w_X8_stepTo_63 (by omega) ?_
      simp (disch := omega) only [nI_add, pk_mul, tn, nI_clamp, nI_eq, nI_leI, nI_ltI, pk_sub, pk_div, pk_rem, nI_nm, nI_nm2, nI_nle1, nI_nlt1, nI_le1, nI_lt1, li_0, li_1, li_2, li_3, li_4, li_5, li_6, li_7, li_8, li_9, li_10, li_11, li_12, li_13, li_14, li_15, li_16, li_17, li_18, li_19, li_20, li_21, li_22, li_23, li_24, li_25, li_26, li_27, li_28, li_29, li_30, li_31, li_32, li_33, li_34, li_35, li_36, li_37, li_38, li_39, li_40, li_41, li_42, li_43, li_44, li_45, li_46, li_47, li_48, li_49, li_50, li_51, li_52, li_53, li_54, li_55, li_56, li_57, li_58, li_59, li_60, li_61, li_62, li_63, li_64, li_65, li_66, li_67, li_68, li_69, li_75, li_97, li_99, li_100, li_101, li_102, li_120, li_122, li_127, li_139, li_187, li_222, li_223, li_224, li_225, li_226, li_255, li_256, li_299, li_400, li_465, li_522, li_523, li_571, li_849, li_999, li_1000, li_1100, li_1371, li_1372, li_1420, li_1984, li_2220, li_5742, li_6264, li_9999, li_10000, li_12345, li_32767, li_65536, li_1000000, li_252645135, li_858993459, li_1103515245, li_1431655765, dd_us, dd_un, dd_u_u, pk_us, pk_un, Bool.true_eq_false, Bool.false_eq_true, true_and, and_true, true_implies, false_implies, implies_true, not_true_eq_false, not_false_eq_true, ne_eq, forall_const, sdm, Nat.add_zero, Nat.zero_add, sb_m1n, nmn1, nmn2, nmn3, nmn4, nmn5, nmn6, bI_0n, bI_1n, ck_and, im_t, im_f, if_pos, if_neg]
      exact C_st79 hd hC hc (same _ (stp2o (by omega))) k
    · exact C_st79 hd hC (by omega) (stp2 (by omega)) k
  · simp (disch := omega) only [Bool.true_eq_false, Bool.false_eq_true, true_and, and_true, true_implies, false_implies, implies_true, not_true_eq_false, not_false_eq_true, ne_eq, forall_const, ck_and, im_t, im_f, if_pos, if_neg]
    refine ⟨fun q => ?_, fun q => ?_⟩
    · refine w_X8_stepTo_63 (by omega) ?_
      simp (disch := omega) only [nI_add, pk_mul, tn, nI_clamp, nI_eq, nI_leI, nI_ltI, pk_sub, pk_div, pk_rem, nI_nm, nI_nm2, nI_nle1, nI_nlt1, nI_le1, nI_lt1, li_0, li_1, li_2, li_3, li_4, li_5, li_6, li_7, li_8, li_9, li_10, li_11, li_12, li_13, li_14, li_15, li_16, li_17, li_18, li_19, li_20, li_21, li_22, li_23, li_24, li_25, li_26, li_27, li_28, li_29, li_30, li_31, li_32, li_33, li_34, li_35, li_36, li_37, li_38, li_39, li_40, li_41, li_42, li_43, li_44, li_45, li_46, li_47, li_48, li_49, li_50, li_51, li_52, li_53, li_54, li_55, li_56, li_57, li_58, li_59, li_60, li_61, li_62, li_63, li_64, li_65, li_66, li_67, li_68, li_69, li_75, li_97, li_99, li_100, li_101, li_102, li_120, li_122, li_127, li_139, li_187, li_222, li_223, li_224, li_225, li_226, li_255, li_256, li_299, li_400, li_465, li_522, li_523, li_571, li_849, li_999, li_1000, li_1100, li_1371, li_1372, li_1420, li_1984, li_2220, li_5742, li_6264, li_9999, li_10000, li_12345, li_32767, li_65536, li_1000000, li_252645135, li_858993459, li_1103515245, li_1431655765, dd_us, dd_un, dd_u_u, pk_us, pk_un, Bool.true_eq_false, Bool.false_eq_true, true_and, and_true, true_implies, false_implies, implies_true, not_true_eq_false, not_false_eq_true, ne_eq, forall_const, sdm, Nat.add_zero, Nat.zero_add, sb_m1n, nmn1, nmn2, nmn3, nmn4, nmn5, nmn6, bI_0n, bI_1n, ck_and, im_t, im_f, if_pos, if_neg]
      exact C_st79 hd hC hc (same _ (stp3o (by omega))) k
    · exact C_st79 hd hC (by omega) (stp3 (by omega)) k
  · simp (disch := omega) only [Bool.true_eq_false, Bool.false_eq_true, true_and, and_true, true_implies, false_implies, implies_true, not_true_eq_false, not_false_eq_true, ne_eq, forall_const, ck_and, im_t, im_f, if_pos, if_neg]
    refine w_X8_stepTo_63 (by omega) ?_
    simp (disch := omega) only [nI_add, pk_mul, tn, nI_clamp, nI_eq, nI_leI, nI_ltI, pk_sub, pk_div, pk_rem, nI_nm, nI_nm2, nI_nle1, nI_nlt1, nI_le1, nI_lt1, li_0, li_1, li_2, li_3, li_4, li_5, li_6, li_7, li_8, li_9, li_10, li_11, li_12, li_13, li_14, li_15, li_16, li_17, li_18, li_19, li_20, li_21, li_22, li_23, li_24, li_25, li_26, li_27, li_28, li_29, li_30, li_31, li_32, li_33, li_34, li_35, li_36, li_37, li_38, li_39, li_40, li_41, li_42, li_43, li_44, li_45, li_46, li_47, li_48, li_49, li_50, li_51, li_52, li_53, li_54, li_55, li_56, li_57, li_58, li_59, li_60, li_61, li_62, li_63, li_64, li_65, li_66, li_67, li_68, li_69, li_75, li_97, li_99, li_100, li_101, li_102, li_120, li_122, li_127, li_139, li_187, li_222, li_223, li_224, li_225, li_226, li_255, li_256, li_299, li_400, li_465, li_522, li_523, li_571, li_849, li_999, li_1000, li_1100, li_1371, li_1372, li_1420, li_1984, li_2220, li_5742, li_6264, li_9999, li_10000, li_12345, li_32767, li_65536, li_1000000, li_252645135, li_858993459, li_1103515245, li_1431655765, dd_us, dd_un, dd_u_u, pk_us, pk_un, Bool.true_eq_false, Bool.false_eq_true, true_and, and_true, true_implies, false_implies, implies_true, not_true_eq_false, not_false_eq_true, ne_eq, forall_const, sdm, Nat.add_zero, Nat.zero_add, sb_m1n, nmn1, nmn2, nmn3, nmn4, nmn5, nmn6, bI_0n, bI_1n, ck_and, im_t, im_f, if_pos, if_neg, and7n]
    refine ⟨fun q => ?_, fun q => ?_⟩
    · exact C_st79 hd hC hc (same _ (stp4o (by omega))) k
    · rw [pk_sub (by omega)]
      exact C_st79 hd hC (by omega) (stp4 (by omega)) k
  · simp (disch := omega) only [Bool.true_eq_false, Bool.false_eq_true, true_and, and_true, true_implies, false_implies, implies_true, not_true_eq_false, not_false_eq_true, ne_eq, forall_const, ck_and, im_t, im_f, if_pos, if_neg]
    refine w_X8_stepTo_63 (by omega) ?_
    simp (disch := omega) only [nI_add, pk_mul, tn, nI_clamp, nI_eq, nI_leI, nI_ltI, pk_sub, pk_div, pk_rem, nI_nm, nI_nm2, nI_nle1, nI_nlt1, nI_le1, nI_lt1, li_0, li_1, li_2, li_3, li_4, li_5, li_6, li_7, li_8, li_9, li_10, li_11, li_12, li_13, li_14, li_15, li_16, li_17, li_18, li_19, li_20, li_21, li_22, li_23, li_24, li_25, li_26, li_27, li_28, li_29, li_30, li_31, li_32, li_33, li_34, li_35, li_36, li_37, li_38, li_39, li_40, li_41, li_42, li_43, li_44, li_45, li_46, li_47, li_48, li_49, li_50, li_51, li_52, li_53, li_54, li_55, li_56, li_57, li_58, li_59, li_60, li_61, li_62, li_63, li_64, li_65, li_66, li_67, li_68, li_69, li_75, li_97, li_99, li_100, li_101, li_102, li_120, li_122, li_127, li_139, li_187, li_222, li_223, li_224, li_225, li_226, li_255, li_256, li_299, li_400, li_465, li_522, li_523, li_571, li_849, li_999, li_1000, li_1100, li_1371, li_1372, li_1420, li_1984, li_2220, li_5742, li_6264, li_9999, li_10000, li_12345, li_32767, li_65536, li_1000000, li_252645135, li_858993459, li_1103515245, li_1431655765, dd_us, dd_un, dd_u_u, pk_us, pk_un, Bool.true_eq_false, Bool.false_eq_true, true_and, and_true, true_implies, false_implies, implies_true, not_true_eq_false, not_false_eq_true, ne_eq, forall_const, sdm, Nat.add_zero, Nat.zero_add, sb_m1n, nmn1, nmn2, nmn3, nmn4, nmn5, nmn6, bI_0n, bI_1n, ck_and, im_t, im_f, if_pos, if_neg]
    exact C_st79 hd hC hc (same _ (stp_o q0)) k
