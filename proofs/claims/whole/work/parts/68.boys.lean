/-! Questions: ahead, hearing, odds, boy -/
theorem rqL {x y : Int32} {m : Nat} {T V : Prop} (e : y = nI m) (hn : m < 2 ^ 29) (t : ¬ vld x (m + 1) → T) (v : vld x (m + 1) → V) : (x < 0 → T) ∧ (¬ x < 0 → ((x ≤ y → V) ∧ (¬ x ≤ y → T))) := by
  subst e
  rcases ix3c x m hn with q | ⟨q1, q2, q3⟩ | ⟨j, hj, rfl⟩
  · exact ⟨fun a => t (fun z => z.1 a), fun a => absurd q a⟩
  · refine ⟨fun a => t (fun z => z.1 a), fun _ => ⟨fun b => ?_, fun _ => t (fun z => q2 z.2)⟩⟩
    rw [Int32.le_iff_toInt_le, nI_toInt (by omega)] at b
    rw [Int32.lt_iff_toInt_lt, nI_toInt (by omega)] at q3
    omega
  · refine ⟨fun a => t (fun z => z.1 a), fun _ => ⟨fun _ => v (vld_n hj (by omega)), fun b => absurd ?_ b⟩⟩
    rw [nI_leI (by omega) (by omega)]
    omega
theorem C_cellAhead {d Ln c s : Nat} {I : Nat → Nat → Int32} {L : Nat → Nat → Int64} {K : Int32 → (Nat → Nat → Int32) → (Nat → Nat → Int64) → Prop} {w : Nat → Nat} {b n : Nat} (hd : 40 ≤ d) (hC : RC w I L) (hO : OKW w) (hL : RLw w I) (hb : b < 6) (hn : n ≤ 100) (kk : ∀ I', FV 133 I I' → K (nI (wkB w b n)) I' L) : dd_Ev d m_X10_cellAhead [.ref 0, .int (nI b), .int (nI n)] (sM Ln I L c s) (dd_RI Ln c s K) := by
  have hk : (133 : Nat) = 133 ∨ (133 : Nat) = 136 := Or.inl rfl
  obtain ⟨_, b1, b2, b3, b4, b5⟩ := hO.2.2.2.1 b (by omega)
  have w7 := hO.1.2.2.2.2.2.2.1
  refine w_X10_cellAhead_0 (by omega) ?_
  refine C_follow (by omega) hk hC hO hb fun I1 v1 f1 => ?_
  have key : ∀ I', RV 133 b (w (187 + 5 * b + 1)) (w (187 + 5 * b + 2)) (w (187 + 5 * b + 4)) ((w 7 + 0) % 8) (w 5) (prow w (w (187 + 5 * b + 1))) (wkB w b 0) (w 4) I' → FV 133 I I' → dd_Rn d m_X10_cellAhead (10, [.ref 0, .int (nI b), .int (nI n), .int (nI 0)], [], sM Ln I' L c s) (dd_RI Ln c s K) := by
    refine dd_lp (fun i => ∀ I', RV 133 b (w (187 + 5 * b + 1)) (w (187 + 5 * b + 2)) (w (187 + 5 * b + 4)) ((w 7 + i) % 8) (w 5) (prow w (w (187 + 5 * b + 1))) (wkB w b i) (w 4) I' → FV 133 I I' → dd_Rn d m_X10_cellAhead (10, [.ref 0, .int (nI b), .int (nI n), .int (nI i)], [], sM Ln I' L c s) (dd_RI Ln c s K)) n ?_ ?_
    · intro I2 v2 f2
      refine w_X10_cellAhead_10 (by omega) ?_
      rw [nI_leI (by omega) (by omega), v2.2.2.2.2]
      exact ⟨fun _ => dd_qi (kk I2 f2), fun q => absurd (Nat.le_refl _) q⟩
    · intro i hi ih I2 v2 f2
      refine w_X10_cellAhead_10 (by omega) ?_
      rw [nI_leI (by omega) (by omega), nI_1]
      refine ⟨fun q => absurd q (by omega), fun _ => ?_⟩
      refine C_beatAhead (by omega) hk (hC.fr f2 (kA hk)) hO (hL.fr f2 (kA26 hk)) v2 (by omega) b2 b3 b5 (by omega) hO.1.2.2.2.2.1 (wk_lt b1 i) (fun j hj => hO.2.2.1 _ b2 j hj) fun I3 v3 f3 => ?_
      rw [show ((w 7 + i) % 8 + 1) % 8 = (w 7 + (i + 1)) % 8 by omega] at v3
      exact ih I3 v3 (f2.trans f3)
  refine key I1 ?_ f1
  rw [show (w 7 + 0) % 8 = w 7 by omega]
  exact v1
theorem M_aheadOf {d Ln c s : Nat} {I : Nat → Nat → Int32} {L : Nat → Nat → Int64} {K : Int32 → (Nat → Nat → Int32) → (Nat → Nat → Int64) → Prop} {w : Nat → Nat} {b n : Nat} (hd : 38 ≤ d) (hR : RM w I) (hO : OKW w) (hi : inbs w) (hb : b < w 1) (hn : n ≤ 100) (k : ∀ I', RM w I' → FB I I' → K (nI (wkB w b n)) I' L) : dd_Ev d m_X11_aheadOf [.ref 148, .int (nI b), .int (nI n)] (sM Ln I L c s) (dd_RI Ln c s K) := by
  have h1 := hO.1.2.1
  refine w_X11_aheadOf_0 (by omega) ?_
  refine M_keepsAll (w := w) (by omega) hR fun f hf => ?_
  refine M_goesOn (w := w) (cm := true) (by omega) (hR.of (dd_un (by decide))) hO (by omega) fun I1 r1 f1 => ?_
  obtain ⟨c1, _, c3, _⟩ := calm hO hi n
  have ei : tn ((187 : Int32) + (5 : Int32) * nI b + 0) = 187 + 5 * b := by
    rw [li_187, li_5, li_0, pk_mul, nI_add, nI_add]
    exact nI_clamp (by omega)
  have e0 : 0 ≤ (187 : Int32) + (5 : Int32) * nI b + 0 := by
    rw [li_187, li_5, pk_mul, nI_add, Int32.add_zero]
    exact nI_pos' (by omega)
  rw [ei, r1.g (by omega), c3 b hb]
  refine ⟨⟨e0, by omega⟩, ?_⟩
  refine M_bringsBack (w0 := w) (by omega) r1 (fun j hj => by rw [f1.1 152 (by decide) (by decide), dd_us]; exact hf j hj) (fun j hj => c1.1 j (by omega)) fun g r2 => ?_
  have fr : FB I I1 := ((FR.refl I).u (by decide) (by decide)).trans (f1.mono (by decide) (by decide))
  exact dd_qi (k _ r2 (fr.u (by decide) (by decide)))
theorem A_ahead {d Ln c s : Nat} {I0 I : Nat → Nat → Int32} {L : Nat → Nat → Int64} {w : Nat → Nat} {im : Option (Nat → Nat)} {na od : Nat} {A : Nat → Nat → Nat} {tp : Nat → Nat} {tl : Nat} {fa : Option Nat} (hd : 60 ≤ d) (h : INV I0 w im na od A tp tl fa I L) (a a2 : Int32) : PW d m_L_ahead [.ref 0, .int a, .int a2, .ref 163] m_X11_ahead [.ref 148, .int a, .int a2] I0 Ln c s I L := by
  have hO := h.1.1
  have hi := h.1.2.1
  have w1 := hO.1.2.1
  have hC := h.2.2.1
  have hk : (133 : Nat) = 133 ∨ (133 : Nat) = 136 := Or.inl rfl
  by_cases hv : vld a (w 1)
  · obtain ⟨b, hb, rfl⟩ := vld_i (by omega) hv
    by_cases hv2 : vld a2 101
    · obtain ⟨n, hn, rfl⟩ := vld_i (by omega) hv2
      refine PW.q h _ (nI (wkB w b n)) (WR2 (e1 := 2) (e2 := 0) (o := none) (w_L_ahead_0 (by omega)) (by decide) (Or.inl rfl) ?_) ?_
      · intro K T g1 g2
        refine w_X10_ahead_0 (by omega) (rqC hC.boys (fun z => absurd hv z) fun _ => rqL (m := 100) rfl (by omega) (fun z => absurd hv2 z) fun _ => ?_)
        refine C_cellAhead (by omega) hC hO h.2.2.2.1 (by omega) (by omega) fun I2 f2 => ?_
        exact dd_qT (g1 rfl I2 L (FC.v hk f2))
      · intro I1 L1 c1 s1 h1 K g
        have hR := h1.2.1
        refine w_X11_ahead_0 (by omega) (rqM (hR.g (by omega)) (by omega) (fun z => absurd hv z) fun _ => rqN (m := 100) rfl (by omega) (fun z => absurd hv2 z) fun _ => ?_)
        refine M_aheadOf (w := w) (by omega) (hR.of (dd_un (by decide))) hO hi hb (by omega) fun I2 r2 f2 => ?_
        exact mqJ r2 ((FM.th I1 0).trans (FM.b f2)) (by rw [f2.2 0 (by decide)]; exact thr0) rfl g
    · refine PW.q h _ 0 (WR2 (e1 := 2) (e2 := 0) (o := some 0) (w_L_ahead_0 (by omega)) (by decide) (Or.inr (Or.inr rfl)) ?_) ?_
      · intro K T g1 g2
        exact w_X10_ahead_0 (by omega) (rqC hC.boys (fun z => absurd hv z) fun _ => rqL (m := 100) rfl (by omega) (fun _ => dd_qX (g2 0 rfl)) fun z => absurd z hv2)
      · intro I1 L1 c1 s1 h1 K g
        have hR := h1.2.1
        refine w_X11_ahead_0 (by omega) ?_
        simp only [dd_u_u, upd_uu]
        exact rqM (hR.g (by omega)) (by omega) (fun z => absurd hv z) fun _ => rqN (m := 100) rfl (by omega) (fun _ => mqT hR (by decide) g) fun z => absurd z hv2
  · refine PW.q h _ 0 (WR2 (e1 := 2) (e2 := 0) (o := some 2) (w_L_ahead_0 (by omega)) (by decide) (Or.inr (Or.inl rfl)) ?_) ?_
    · intro K T g1 g2
      exact w_X10_ahead_0 (by omega) (rqC hC.boys (fun _ => dd_qX (g2 2 rfl)) fun z => absurd z hv)
    · intro I1 L1 c1 s1 h1 K g
      have hR := h1.2.1
      refine w_X11_ahead_0 (by omega) ?_
      simp only [dd_u_u, upd_uu]
      exact rqM (hR.g (by omega)) (by omega) (fun _ => mqT hR (by decide) g) fun z => absurd z hv
/-- a boy hears now -/
def hrN (w : Nat → Nat) (b : Nat) : Bool := !decide (w (187 + 5 * b + 3) = 1) && hrB w b (ntB w b)
theorem C_hearsNowB {d Ln c s : Nat} {I : Nat → Nat → Int32} {L : Nat → Nat → Int64} {K : Int32 → (Nat → Nat → Int32) → (Nat → Nat → Int64) → Prop} {w : Nat → Nat} {b : Nat} (hd : 36 ≤ d) (hC : RC w I L) (hO : OKW w) (hL : RLw w I) (hb : b < 6) (kk : ∀ I', FV 133 I I' → K (bI (hrN w b)) I' L) : dd_Ev d m_X10_hearsNow [.ref 0, .int (nI b)] (sM Ln I L c s) (dd_RI Ln c s K) := by
  have hk : (133 : Nat) = 133 ∨ (133 : Nat) = 136 := Or.inl rfl
  obtain ⟨_, b1, b2, b3, b4, b5⟩ := hO.2.2.2.1 b (by omega)
  refine w_X10_hearsNow_0 (by omega) ?_
  refine C_isIn (by omega) hC hb ?_
  simp only [bI_0]
  unfold hrN at kk
  refine ⟨fun q => ?_, fun q => ?_⟩
  · refine C_follow (by omega) hk hC hO hb fun I1 v1 f1 => ?_
    refine C_hearsNow (by omega) hk (hC.fr f1 (kA hk)) hO (hL.fr f1 (kA26 hk)) v1 (by omega) b2 b3 b5 hO.1.2.2.2.2.2.2.1 hO.1.2.2.2.2.1 b1 (fun j hj => hO.2.2.1 _ b2 j hj) fun I2 f2 => ?_
    have kx := kk I2 (f1.trans (f2.mono (fun x hx => absurd hx List.not_mem_nil) (fun x hx => hx)))
    rw [q] at kx
    exact ⟨bI_01 _, dd_qi kx⟩
  · rw [Bool.not_eq_false] at q
    have kx := kk I (FR.refl I)
    rw [q] at kx
    exact dd_qi kx
theorem M_hears {d Ln c s : Nat} {I : Nat → Nat → Int32} {L : Nat → Nat → Int64} {K : Int32 → (Nat → Nat → Int32) → (Nat → Nat → Int64) → Prop} {w : Nat → Nat} {b : Nat} (hd : 34 ≤ d) (hR : RM w I) (hO : OKW w) (hb : b ≤ 6) (k : ∀ I', RM w I' → FW I I' → K (bI (hrB w b (ntB w b))) I' L) : dd_Ev d m_X11_hears [.ref 148, .int (nI b)] (sM Ln I L c s) (dd_RI Ln c s K) := by
  obtain ⟨w0, w1, w2, w4, w5, w6, w7, w8, w9, w10⟩ := hO.1
  obtain ⟨b0, b1, b2, b3, b4, b5⟩ := hO.2.2.2.1 b hb
  have hN := hO.2.2.1 _ b2 _ w7
  refine w_X11_hears_0 (by omega) ?_
  simp (disch := omega) only [nI_add, pk_mul, tn, nI_clamp, nI_eq, nI_leI, nI_ltI, pk_sub, pk_div, pk_rem, nI_nm, nI_nm2, nI_nle1, nI_nlt1, nI_le1, nI_lt1, li_0, li_1, li_2, li_3, li_4, li_5, li_6, li_7, li_8, li_9, li_10, li_11, li_12, li_13, li_14, li_15, li_16, li_17, li_18, li_19, li_20, li_21, li_22, li_23, li_24, li_25, li_26, li_27, li_28, li_29, li_30, li_31, li_32, li_33, li_34, li_35, li_36, li_37, li_38, li_39, li_40, li_41, li_42, li_43, li_44, li_45, li_46, li_47, li_48, li_49, li_50, li_51, li_52, li_53, li_54, li_55, li_56, li_57, li_58, li_59, li_60, li_61, li_62, li_63, li_64, li_65, li_66, li_67, li_68, li_69, li_75, li_97, li_99, li_100, li_101, li_102, li_120, li_122, li_127, li_139, li_187, li_222, li_223, li_224, li_225, li_226, li_255, li_256, li_299, li_400, li_465, li_522, li_523, li_571, li_849, li_999, li_1000, li_1100, li_1371, li_1372, li_1420, li_1984, li_2220, li_5742, li_6264, li_9999, li_10000, li_12345, li_32767, li_65536, li_1000000, li_252645135, li_858993459, li_1103515245, li_1431655765, dd_us, dd_un, dd_u_u, pk_us, pk_un, Bool.true_eq_false, Bool.false_eq_true, true_and, and_true, true_implies, false_implies, implies_true, not_true_eq_false, not_false_eq_true, ne_eq, forall_const, sdm, Nat.add_zero, Nat.zero_add, sb_m1n, nmn1, nmn2, nmn3, nmn4, nmn5, nmn6, bI_0n, bI_1n, ck_and, im_t, im_f, if_pos, if_neg, hR.g]
  refine M_hearsBy (by omega) hR hO hb hN fun I1 r1 f1 => ?_
  exact ⟨bI_01 _, dd_qi (k I1 r1 f1)⟩
theorem A_hearing {d Ln c s : Nat} {I0 I : Nat → Nat → Int32} {L : Nat → Nat → Int64} {w : Nat → Nat} {im : Option (Nat → Nat)} {na od : Nat} {A : Nat → Nat → Nat} {tp : Nat → Nat} {tl : Nat} {fa : Option Nat} (hd : 60 ≤ d) (h : INV I0 w im na od A tp tl fa I L) : PIw d m_X10_hearing [.ref 0] m_X11_hearing [.ref 148] I0 Ln c s I L := by
  have hO := h.1.1
  have w1 := hO.1.2.1
  have hC := h.2.2.1
  have hk : (133 : Nat) = 133 ∨ (133 : Nat) = 136 := Or.inl rfl
  let V : Nat → Int32 := lpf (fun b v => if hrN w b = true then v ||| ((1 : Int32) <<< (nI b &&& 31)) else v) 0
  have hV : ∀ i, V (i + 1) = if hrN w i = true then V i ||| ((1 : Int32) <<< (nI i &&& 31)) else V i := fun _ => rfl
  have hV0 : V 0 = 0 := rfl
  generalize V = V at *
  refine PIw.q h (V (w 1)) ?_ ?_
  · intro K g
    refine w_X10_hearing_0 (by omega) ?_
    have key : ∀ I', FV 133 I I' → dd_Rn d m_X10_hearing (4, [.ref 0, .int (V 0), .int (nI 0)], [], sM Ln I' L c s) (dd_RI Ln c s K) := by
      refine dd_lp (fun i => ∀ I', FV 133 I I' → dd_Rn d m_X10_hearing (4, [.ref 0, .int (V i), .int (nI i)], [], sM Ln I' L c s) (dd_RI Ln c s K)) (w 1) ?_ ?_
      · intro I1 f1
        refine w_X10_hearing_4 (by omega) ?_
        rw [(hC.fr f1 (kA hk)).boys, nI_leI (by omega) (by omega)]
        exact ⟨fun _ => dd_qi (g I1 L (FC.v hk f1)), fun q => absurd (Nat.le_refl _) q⟩
      · intro i hi ih I1 f1
        have c1 := hC.fr f1 (kA hk)
        refine w_X10_hearing_4 (by omega) ?_
        rw [c1.boys, nI_leI (by omega) (by omega)]
        refine ⟨fun q => absurd q (by omega), fun _ => ?_⟩
        refine C_hearsNowB (by omega) c1 hO (h.2.2.2.1.fr f1 (kA26 hk)) (by omega) fun I2 f2 => ?_
        simp only [nI_1, bI_0]
        rw [hV] at ih
        refine ⟨fun q => ?_, fun q => ?_⟩
        · rw [if_neg (by rw [q]; decide)] at ih
          exact ih I2 (f1.trans f2)
        · rw [Bool.not_eq_false] at q
          rw [if_pos q] at ih
          exact ih I2 (f1.trans f2)
    rw [hV0] at key
    exact key I (FR.refl I)
  · intro I1 L1 h1 K g
    have hR := h1.2.1
    refine w_X11_hearing_0 (by omega) ?_
    have fj := FM.th I1 0
    have t0 := thr0 (I := I1) (v := 0)
    have hR1 : RM w (dd_u I1 148 (upd (I1 148) 0 0)) := hR.of (dd_un (by decide))
    generalize dd_u I1 148 (upd (I1 148) 0 0) = J at *
    have or0 : ∀ x : Int32, x ||| 0 = x := fun x => bX_ext fun i _ => by rw [bX_or, bX_0, Bool.or_false]
    have key : ∀ I', RM w I' → FB J I' → dd_Rn d m_X11_hearing (9, [.ref 148, .int (V 0), .int (nI 0)], [], sM Ln I' L1 c s) (dd_RI Ln c s K) := by
      refine dd_lp (fun i => ∀ I', RM w I' → FB J I' → dd_Rn d m_X11_hearing (9, [.ref 148, .int (V i), .int (nI i)], [], sM Ln I' L1 c s) (dd_RI Ln c s K)) (w 1) ?_ ?_
      · intro I2 r2 f2
        refine w_X11_hearing_9 (by omega) ?_
        rw [r2.g (by omega), nI_leI (by omega) (by omega)]
        exact ⟨fun _ => mqJ r2 (fj.trans (FM.b f2)) (by rw [f2.2 0 (by decide)]; exact t0) rfl g, fun q => absurd (Nat.le_refl _) q⟩
      · intro i hi ih I2 r2 f2
        obtain ⟨_, b1, b2, b3, b4, b5⟩ := hO.2.2.2.1 i (by omega)
        have ei : tn ((187 : Int32) + (5 : Int32) * nI i + 3) = 187 + 5 * i + 3 := by
          rw [li_187, li_5, li_3, pk_mul, nI_add, nI_add]
          exact nI_clamp (by omega)
        have e0 : 0 ≤ (187 : Int32) + (5 : Int32) * nI i + 3 := by
          rw [li_187, li_5, li_3, pk_mul, nI_add, nI_add]
          exact nI_pos' (by omega)
        rw [hV] at ih
        unfold hrN at ih
        refine w_X11_hearing_9 (by omega) ?_
        rw [ei, r2.g (by omega), r2.g (by omega), nI_leI (by omega) (by omega)]
        simp only [nI_1, or0]
        refine ⟨fun q => absurd q (by omega), fun _ => ⟨⟨e0, by omega⟩, ?_⟩⟩
        rw [show ((nI (w (187 + 5 * i + 3)) = (1 : Int32)) = (w (187 + 5 * i + 3) = 1)) from propext (nI_eq (b := 1) (by omega) (by omega))]
        refine ⟨fun q => ?_, fun q => ?_⟩
        · rw [if_neg (by rw [decide_eq_true q]; simp)] at ih
          exact ih I2 r2 f2
        · refine M_hears (by omega) r2 hO (by omega) fun I3 r3 f3 => ?_
          simp only [bI_0]
          rw [decide_eq_false q] at ih
          have f23 : FB J I3 := f2.trans (f3.mono (by decide) (by decide))
          refine ⟨fun q2 => ?_, fun q2 => ?_⟩
          · rw [if_neg (by rw [q2]; decide)] at ih
            exact ih I3 r3 f23
          · rw [Bool.not_eq_false] at q2
            rw [if_pos (by rw [q2]; rfl)] at ih
            exact ih I3 r3 f23
    rw [hV0] at key
    exact key J hR1 (FR.refl J)
