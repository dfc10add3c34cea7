/-! Questions: mends -/
theorem wk_row {w : Nat → Nat} {num part ear bad loud t c : Nat} {row row' : Nat → Nat} (h : ∀ j, j < 8 → row j = row' j) : ∀ n, wk w num part ear bad loud row t c n = wk w num part ear bad loud row' t c n := by
  intro n
  induction n with
  | zero => rfl
  | succ n ih =>
    unfold wk at *
    rw [lpf, lpf, ih, h _ (by omega)]
/-- a row with one note changed -/
def rowC (row : Nat → Nat) (k : Nat) : Nat → Nat := fun j => if j = k / 8 then k % 8 else row j
abbrev wkM (w : Nat → Nat) (b k : Nat) : Nat → Nat := wk w b (w (187 + 5 * b + 1)) (w (187 + 5 * b + 2)) (w (187 + 5 * b + 4)) (w 5) (rowC (prow w (w (187 + 5 * b + 1))) k) (w 7) (w (187 + 5 * b))
def duM (w : Nat → Nat) (b k : Nat) : Nat := due (fun n => decide (wkM w b k n = w 4))
theorem A_mends {d Ln c s : Nat} {I0 I : Nat → Nat → Int32} {L : Nat → Nat → Int64} {w : Nat → Nat} {im : Option (Nat → Nat)} {na od : Nat} {A : Nat → Nat → Nat} {tp : Nat → Nat} {tl : Nat} {fa : Option Nat} (hd : 60 ≤ d) (h : INV I0 w im na od A tp tl fa I L) (a : Int32) : PW d m_L_mends [.ref 0, .int a, .ref 163] m_X11_mends [.ref 148, .int a] I0 Ln c s I L := by
  have hO := h.1.1
  have hi := h.1.2.1
  have w1 := hO.1.2.1
  have hC := h.2.2.1
  have hk : (133 : Nat) = 133 ∨ (133 : Nat) = 136 := Or.inl rfl
  by_cases hv : vld a (w 1)
  · obtain ⟨b, hb, rfl⟩ := vld_i (by omega) hv
    obtain ⟨_, b1, b2, b3, b4, b5⟩ := hO.2.2.2.1 b (by omega)
    have dl : ∀ k, duM w b k ≤ 101 := fun k => due_le _
    have d0 : due (fun n => decide (wkB w b n = w 4)) ≤ 101 := due_le _
    have hD0 : ∃ D0, D0 = due (fun n => decide (wkB w b n = w 4)) := ⟨_, rfl⟩
    obtain ⟨D0, eD0⟩ := hD0
    rw [← eD0] at d0
    have hf : ∀ k, (fun k => 101 - duM w b k) k = 101 - duM w b k := fun _ => rfl
    have hok : ∀ k, (fun k => decide (duM w b k < D0)) k = decide (duM w b k < D0) := fun _ => rfl
    generalize (fun k => 101 - duM w b k) = F at *
    generalize (fun k => decide (duM w b k < D0)) = ok at *
    have okm : ∀ {i m}, amA F ok i = some m → duM w b m < D0 := by
      intro i
      induction i with
      | zero => intro m z; cases z
      | succ i ih =>
        intro m z
        cases ho : amA F ok i with
        | none =>
          rw [amA_n ho] at z
          split at z
          · rename_i q
            cases z
            rw [hok] at q
            exact of_decide_eq_true q
          · cases z
        | some m' =>
          rw [amA_m ho] at z
          split at z
          · rename_i q
            cases z
            have := q.1
            rw [hok] at this
            exact of_decide_eq_true this
          · cases z
            exact ih ho
    have lsm : ∀ o : Option Nat, lsD (duM w b) D0 o ≤ 101 := by
      intro o
      cases o with
      | none => exact d0
      | some m => exact dl m
    have step : ∀ i, (lsD (duM w b) D0 (amA F ok i) ≤ duM w b i → amA F ok (i + 1) = amA F ok i) ∧ (¬ lsD (duM w b) D0 (amA F ok i) ≤ duM w b i → amA F ok (i + 1) = some i) := by
      intro i
      have di := dl i
      cases ho : amA F ok i with
      | none =>
        have e : lsD (duM w b) D0 none = D0 := rfl
        rw [amA_n ho, e]
        exact ⟨fun z => by rw [if_neg (by rw [hok, decide_eq_false (by omega)]; decide)], fun z => by rw [if_pos (by rw [hok]; exact decide_eq_true (by omega))]⟩
      | some m =>
        rw [amA_m ho]
        have fm := hf m
        have fi := hf i
        have dm := dl m
        have om := okm ho
        have e : lsD (duM w b) D0 (some m) = duM w b m := rfl
        rw [e]
        exact ⟨fun z => by rw [if_neg (fun y => by have := y.2; omega)], fun z => by rw [if_pos ⟨by rw [hok]; exact decide_eq_true (by omega), by omega⟩]⟩
    refine PW.q h _ (oI (amA F ok 64)) (WR1 (e1 := 2) (o := none) (w_L_mends_0 (by omega)) (Or.inl rfl) ?_) ?_
    · intro K T g1 g2
      refine w_X10_mends_0 (by omega) (rqC hC.boys (fun z => absurd hv z) fun _ => ?_)
      have key : ∀ (a2 : Int32) (a6 : Value) I', FV 133 I I' → dd_Rn (d - 1) m_X10_mends (39, [.ref 0, .int (nI b), .int a2, .int (nI (lsD (duM w b) D0 (amA F ok 0))), .int (oI (amA F ok 0)), .int (nI 0), a6], [], sM Ln I' L c s) (dd_TI Ln c s K T) := by
        refine dd_lp (fun i => ∀ (a2 : Int32) (a6 : Value) I', FV 133 I I' → dd_Rn (d - 1) m_X10_mends (39, [.ref 0, .int (nI b), .int a2, .int (nI (lsD (duM w b) D0 (amA F ok i))), .int (oI (amA F ok i)), .int (nI i), a6], [], sM Ln I' L c s) (dd_TI Ln c s K T)) 64 ?_ ?_
        · intro a2 a6 I1 f1
          refine w_X10_mends_39 (by omega) ?_
          rw [li_64, nI_leI (by omega) (by omega)]
          exact ⟨fun _ => dd_qT (g1 rfl I1 L (FC.v hk f1)), fun q => absurd (Nat.le_refl _) q⟩
        · intro i hi' ih a2 a6 I1 f1
          have c1 := hC.fr f1 (kA hk)
          refine w_X10_mends_39 (by omega) ?_
          rw [li_64, nI_leI (by omega) (by omega)]
          refine ⟨fun q => absurd q (by omega), fun _ => ?_⟩
          refine C_follow (by omega) hk c1 hO (by omega) fun I2 v2 f2 => ?_
          have f12 := f1.trans f2
          have ed : nI i / 8 = nI (i / 8) := by rw [li_8, pk_div (by omega) (by omega) (by omega)]
          have em : nI i - nI (i / 8) * 8 = nI (i % 8) := by rw [li_8, pk_mul, pk_sub (by omega), sdm]
          have et : tn (nI (i / 8)) = i / 8 := nI_clamp (by omega)
          rw [ed, em, et]
          refine ⟨⟨nI_pos' (by omega), by omega⟩, ?_⟩
          have f3 : FV 133 I (dd_u I2 135 (upd (I2 135) (i / 8) (nI (i % 8)))) := f12.u (by decide) (by decide)
          have v3 : RV 133 b (w (187 + 5 * b + 1)) (w (187 + 5 * b + 2)) (w (187 + 5 * b + 4)) (w 7) (w 5) (rowC (prow w (w (187 + 5 * b + 1))) i) (w (187 + 5 * b)) (w 4) (dd_u I2 135 (upd (I2 135) (i / 8) (nI (i % 8)))) := by
            obtain ⟨⟨q0, q1, q2, q6, q7, qr, ql⟩, q3, q4, q5, qc⟩ := v2
            refine ⟨⟨?_, ?_, ?_, ?_, ?_, ?_, ?_⟩, ?_, ?_, ?_, ?_⟩
            · rw [dd_un (by decide)]; exact q0
            · rw [dd_un (by decide)]; exact q1
            · rw [dd_un (by decide)]; exact q2
            · rw [dd_un (by decide)]; exact q6
            · rw [dd_un (by decide)]; exact q7
            · intro j hj
              rw [dd_us]
              unfold rowC
              by_cases e : j = i / 8
              · rw [if_pos e, e, pk_us]
              · rw [if_neg e, pk_un e]; exact qr j hj
            · rw [dd_un (by decide)]; exact ql
            · rw [dd_un (by decide)]; exact q3
            · rw [dd_un (by decide)]; exact q4
            · rw [dd_un (by decide)]; exact q5
            · rw [dd_un (by decide)]; exact qc
          refine C_comesIn (by omega) hk (hC.fr f3 (kA hk)) hO (h.2.2.2.1.fr f3 (kA26 hk)) v3 (by omega) b2 b3 b5 hO.1.2.2.2.2.2.2.1 hO.1.2.2.2.2.1 b1 (fun j hj => by
            have := hO.2.2.1 _ b2 j hj
            unfold rowC prow
            split <;> omega) fun I4 f4 => ?_
          have f34 := f3.trans f4
          simp only [nI_1]
          have di := dl i
          have ll := lsm (amA F ok i)
          obtain ⟨s1, s2⟩ := step i
          rcases due_o (fun n => decide (wkM w b i n = w 4)) with ⟨z1, z2⟩ | ⟨z1, z2⟩
          · have z1' : duM w b i = 101 := z1
            rw [z2]
            rw [s1 (by omega)] at ih
            exact ⟨fun _ => ih _ _ I4 f34, fun y => absurd rfl y⟩
          · have z1' : duM w b i < 101 := z1
            have z2' : oI (frst (fun n => decide (wkM w b i n = w 4)) 101) = nI (duM w b i) := z2
            rw [z2']
            have ne : ¬ nI (duM w b i) = -1 := fun z => by
              have e : (nI (duM w b i) = -1) = False := nI_nm (by omega)
              exact (e ▸ z : False)
            refine ⟨fun y => absurd y ne, fun _ => ?_⟩
            rw [nI_leI (by omega) (by omega)]
            refine ⟨fun y => ?_, fun y => ?_⟩
            · rw [s1 y] at ih
              exact ih _ _ I4 f34
            · rw [s2 y] at ih
              exact ih _ _ I4 f34
      refine C_follow (by omega) hk hC hO (by omega) fun I1 v1 f1 => ?_
      refine C_comesIn (by omega) hk (hC.fr f1 (kA hk)) hO (h.2.2.2.1.fr f1 (kA26 hk)) v1 (by omega) b2 b3 b5 hO.1.2.2.2.2.2.2.1 hO.1.2.2.2.2.1 b1 (fun j hj => hO.2.2.1 _ b2 j hj) fun I2 f2 => ?_
      have f12 := f1.trans f2
      rcases due_o (fun n => decide (wkB w b n = w 4)) with ⟨z1, z2⟩ | ⟨z1, z2⟩
      · rw [z2]
        have e : D0 = 101 := eD0.trans z1
        have kx := key (-1) .null I2 f12
        have e2 : lsD (duM w b) D0 (amA F ok 0) = 101 := e
        rw [e2] at kx
        exact ⟨fun _ => kx, fun y => absurd rfl y⟩
      · rw [z2, ← eD0]
        have e : D0 < 101 := by rw [eD0]; exact z1
        have ne : ¬ nI D0 = -1 := fun z => by
          have e : (nI D0 = -1) = False := nI_nm (by omega)
          exact (e ▸ z : False)
        exact ⟨fun y => absurd y ne, fun _ => key (nI D0) .null I2 f12⟩
    · intro I1 L1 c1 s1 h1 K g
      have hR := h1.2.1
      refine w_X11_mends_0 (by omega) (rqM (hR.g (by omega)) (by omega) (fun z => absurd hv z) fun _ => ?_)
      have fj := FM.th I1 0
      have t0 := thr0 (I := I1) (v := 0)
      have hR1 : RM w (dd_u I1 148 (upd (I1 148) 0 0)) := hR.of (dd_un (by decide))
      generalize dd_u I1 148 (upd (I1 148) 0 0) = J at *
      refine M_soonOf (w := w) (by omega) hR1 hO hi hb fun I2 r2 f2 => ?_
      rw [← eD0]
      have key : ∀ (a5 : Value) I', RM w I' → FB J I' → dd_Rn d m_X11_mends (31, [.ref 148, .int (nI b), .int (oI (amA F ok 0)), .int (nI (lsD (duM w b) D0 (amA F ok 0))), .int (nI 0), a5], [], sM Ln I' L1 c1 s1) (dd_RI Ln c1 s1 K) := by
        refine dd_lp (fun i => ∀ (a5 : Value) I', RM w I' → FB J I' → dd_Rn d m_X11_mends (31, [.ref 148, .int (nI b), .int (oI (amA F ok i)), .int (nI (lsD (duM w b) D0 (amA F ok i))), .int (nI i), a5], [], sM Ln I' L1 c1 s1) (dd_RI Ln c1 s1 K)) 64 ?_ ?_
        · intro a5 I3 r3 f3
          refine w_X11_mends_31 (by omega) ?_
          rw [li_64, nI_leI (by omega) (by omega)]
          exact ⟨fun _ => mqJ r3 (fj.trans (FM.b f3)) (by rw [f3.2 0 (by decide)]; exact t0) rfl g, fun q => absurd (Nat.le_refl _) q⟩
        · intro i hi' ih a5 I3 r3 f3
          refine w_X11_mends_31 (by omega) ?_
          rw [li_64, nI_leI (by omega) (by omega)]
          refine ⟨fun q => absurd q (by omega), fun _ => ?_⟩
          refine M_keepsAll (w := w) (by omega) r3 fun f hf' => ?_
          have hR2 : RM w (dd_u I3 152 f) := r3.of (dd_un (by decide))
          have oU : OKW (upw w (139 + 8 * w (187 + 5 * b + 1) + i / 8) (i % 8)) := okW_n hO b2 (by omega) (by omega)
          have iU : inbs (upw w (139 + 8 * w (187 + 5 * b + 1) + i / 8) (i % 8)) := inbs_up hi (by omega) (by omega) (fun b' => by omega)
          have eU : env w (upw w (139 + 8 * w (187 + 5 * b + 1) + i / 8) (i % 8)) := env_up (by omega) (by omega) (by omega) (by omega)
          have rU : RM (upw w (139 + 8 * w (187 + 5 * b + 1) + i / 8) (i % 8)) (dd_u (dd_u I3 152 f) 149 (upd (dd_u I3 152 f 149) (139 + 8 * w (187 + 5 * b + 1) + i / 8) (nI (i % 8)))) := RM.set (nu hR2 _ _)
          simp (disch := omega) only [nI_add, pk_mul, tn, nI_clamp, nI_eq, nI_leI, nI_ltI, pk_sub, pk_div, pk_rem, nI_nm, nI_nm2, nI_nle1, nI_nlt1, nI_le1, nI_lt1, li_0, li_1, li_2, li_3, li_4, li_5, li_6, li_7, li_8, li_9, li_10, li_11, li_12, li_13, li_14, li_15, li_16, li_17, li_18, li_19, li_20, li_21, li_22, li_23, li_24, li_25, li_26, li_27, li_28, li_29, li_30, li_31, li_32, li_33, li_34, li_35, li_36, li_37, li_38, li_39, li_40, li_41, li_42, li_43, li_44, li_45, li_46, li_47, li_48, li_49, li_50, li_51, li_52, li_53, li_54, li_55, li_56, li_57, li_58, li_59, li_60, li_61, li_62, li_63, li_64, li_65, li_66, li_67, li_68, li_69, li_75, li_97, li_99, li_100, li_101, li_102, li_120, li_122, li_127, li_139, li_187, li_222, li_223, li_224, li_225, li_226, li_255, li_256, li_299, li_400, li_465, li_522, li_523, li_571, li_849, li_999, li_1000, li_1100, li_1371, li_1372, li_1420, li_1984, li_2220, li_5742, li_6264, li_9999, li_10000, li_12345, li_32767, li_65536, li_1000000, li_252645135, li_858993459, li_1103515245, li_1431655765, Bool.true_eq_false, Bool.false_eq_true, true_and, and_true, true_implies, false_implies, implies_true, not_true_eq_false, not_false_eq_true, ne_eq, forall_const, ck_and, im_t, im_f, if_pos, if_neg, sdm, hR2.g]
          refine M_soonFor (m := (1 : Int32) <<< (nI b &&& 31)) (w := upw w (139 + 8 * w (187 + 5 * b + 1) + i / 8) (i % 8)) (w0 := w) (by omega) rU oU (fun j hj => by rw [dd_un (by decide), dd_us]; exact hf' j hj) (fun j hj => upw_ne (by omega)) fun I4 r4 f4 => ?_
          have ed : due (fun n => allIn (goA true (upw w (139 + 8 * w (187 + 5 * b + 1) + i / 8) (i % 8)) n).1 ((1 : Int32) <<< (nI b &&& 31))) = duM w b i := by
            refine due_cong fun n => ?_
            rw [soonB oU iU (by rw [upw_ne (by omega)]; exact hb) n]
            unfold wkB
            rw [upw_ne (by omega), upw_ne (by omega), upw_ne (by omega), upw_ne (by omega), upw_ne (by omega), upw_ne (by omega), upw_ne (by omega), wk_env eU b1]
            rw [wk_row (row' := rowC (prow w (w (187 + 5 * b + 1))) i) (fun j hj => by
              unfold prow rowC upw
              by_cases e : j = i / 8
              · rw [if_pos e, if_pos (by omega)]
              · rw [if_neg e, if_neg (by omega)])]
          rw [ed]
          have f34 : FB J I4 := (((f3.u (by decide) (by decide)).u (by decide) (by decide)).trans (f4.mono (by decide) (by decide)))
          have di := dl i
          have ll := lsm (amA F ok i)
          obtain ⟨s1', s2'⟩ := step i
          simp (disch := omega) only [nI_leI, nI_ltI, ite_n]
          refine ⟨fun y => ?_, fun y => ?_⟩
          · rw [s1' y] at ih
            rw [if_neg (by omega)]
            exact ih _ I4 r4 f34
          · rw [s2' y] at ih
            rw [if_pos (by omega)]
            exact ih _ I4 r4 f34
      exact key .null I2 r2 f2
  · refine PW.q h _ 0 (WR1 (e1 := 2) (o := some 2) (w_L_mends_0 (by omega)) (Or.inr rfl) ?_) ?_
    · intro K T g1 g2
      exact w_X10_mends_0 (by omega) (rqC hC.boys (fun _ => dd_qX (g2 2 rfl)) fun z => absurd z hv)
    · intro I1 L1 c1 s1 h1 K g
      have hR := h1.2.1
      refine w_X11_mends_0 (by omega) ?_
      rw [dd_u_u, upd_uu]
      exact rqM (hR.g (by omega)) (by omega) (fun _ => mqT hR (by decide) g) fun z => absurd z hv
