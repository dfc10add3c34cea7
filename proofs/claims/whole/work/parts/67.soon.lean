/-! Questions: best, ahead, hearing, odds -/
/-- the least of the dues, as the most of what is left -/
def lst (f : Nat → Nat) (o : Option Nat) : Nat := match o with | none => 101 | some m => 101 - f m
theorem A_best {d Ln c s : Nat} {I0 I : Nat → Nat → Int32} {L : Nat → Nat → Int64} {w : Nat → Nat} {im : Option (Nat → Nat)} {na od : Nat} {A : Nat → Nat → Nat} {tp : Nat → Nat} {tl : Nat} {fa : Option Nat} (hd : 60 ≤ d) (h : INV I0 w im na od A tp tl fa I L) (a : Int32) : PW d m_L_best [.ref 0, .int a, .ref 163] m_X11_best [.ref 148, .int a] I0 Ln c s I L := by
  have hO := h.1.1
  have hi := h.1.2.1
  have w0 := hO.1.1
  have w1 := hO.1.2.1
  have hC := h.2.2.1
  have hk : (133 : Nat) = 133 ∨ (133 : Nat) = 136 := Or.inl rfl
  by_cases hv : vld a (w 1)
  · obtain ⟨b, hb, rfl⟩ := vld_i (by omega) hv
    have dl : ∀ p, due (fun n => decide (byW w b p n = w 4)) ≤ 101 := fun p => due_le _
    have hf : ∀ p, (fun p => 101 - due (fun n => decide (byW w b p n = w 4))) p = 101 - due (fun n => decide (byW w b p n = w 4)) := fun _ => rfl
    have hok : ∀ p, (fun p => decide (due (fun n => decide (byW w b p n = w 4)) < 101)) p = decide (due (fun n => decide (byW w b p n = w 4)) < 101) := fun _ => rfl
    generalize hF : (fun p => 101 - due (fun n => decide (byW w b p n = w 4))) = F at *
    generalize hK : (fun p => decide (due (fun n => decide (byW w b p n = w 4)) < 101)) = ok at *
    refine PW.q h _ (oI (amA F ok (w 0))) (WR1 (e1 := 2) (o := none) (w_L_best_0 (by omega)) (Or.inl rfl) ?_) ?_
    · intro K T g1 g2
      refine w_X10_best_0 (by omega) (rqC hC.boys (fun z => absurd hv z) fun _ => ?_)
      have key : ∀ (a5 : Value) I', FV 133 I I' → dd_Rn (d - 1) m_X10_best (13, [.ref 0, .int (nI b), .int (oI (amA F ok 0)), .int (nI (lst F (amA F ok 0))), .int (nI 0), a5], [], sM Ln I' L c s) (dd_TI Ln c s K T) := by
        refine dd_lp (fun i => ∀ (a5 : Value) I', FV 133 I I' → dd_Rn (d - 1) m_X10_best (13, [.ref 0, .int (nI b), .int (oI (amA F ok i)), .int (nI (lst F (amA F ok i))), .int (nI i), a5], [], sM Ln I' L c s) (dd_TI Ln c s K T)) (w 0) ?_ ?_
        · intro a5 I1 f1
          have c1 := hC.fr f1 (kA hk)
          refine w_X10_best_13 (by omega) ?_
          rw [c1.parts, nI_leI (by omega) (by omega)]
          exact ⟨fun _ => dd_qT (g1 rfl I1 L (FC.v hk f1)), fun q => absurd (Nat.le_refl _) q⟩
        · intro i hi' ih a5 I1 f1
          have c1 := hC.fr f1 (kA hk)
          refine w_X10_best_13 (by omega) ?_
          rw [c1.parts, nI_leI (by omega) (by omega)]
          refine ⟨fun q => absurd q (by omega), fun _ => ?_⟩
          refine C_soonBy (by omega) c1 hO (h.2.2.2.1.fr f1 (kA26 hk)) (by omega) (by omega) fun I2 f2 => ?_
          simp only [nI_1]
          have f12 := f1.trans f2
          have di := dl i
          have fi := hf i
          have oi := hok i
          rcases due_o (fun n => decide (byW w b i n = w 4)) with ⟨q1, q2⟩ | ⟨q1, q2⟩
          · rw [q2]
            refine ⟨fun _ => ?_, fun z => absurd rfl z⟩
            have e : amA F ok (i + 1) = amA F ok i := by
              cases ho : amA F ok i with
              | none => rw [amA_n ho, if_neg (by rw [oi, decide_eq_false (by omega)]; decide)]
              | some m => rw [amA_m ho, if_neg (fun z => by have := z.1; rw [oi, decide_eq_false (by omega)] at this; cases this)]
            rw [e] at ih
            exact ih _ I2 f12
          · rw [q2]
            have ne : ¬ nI (due (fun n => decide (byW w b i n = w 4))) = -1 := fun z => by
              have e : (nI (due (fun n => decide (byW w b i n = w 4))) = -1) = False := nI_nm (by omega)
              exact (e ▸ z : False)
            refine ⟨fun z => absurd z ne, fun _ => ?_⟩
            have ll : lst F (amA F ok i) ≤ 101 := by unfold lst; split <;> omega
            rw [nI_leI (by omega) (by omega)]
            cases ho : amA F ok i with
            | none =>
              rw [amA_n ho, if_pos (by rw [oi]; exact decide_eq_true q1)] at ih
              have ih' := ih (.int (nI (due (fun n => decide (byW w b i n = w 4))))) I2 f12
              refine ⟨fun z => ?_, fun _ => ?_⟩
              · have : (101 : Nat) ≤ due (fun n => decide (byW w b i n = w 4)) := z
                omega
              · have e : lst F (some i) = due (fun n => decide (byW w b i n = w 4)) := by show 101 - F i = _; omega
                rw [e] at ih'
                exact ih'
            | some m =>
              rw [amA_m ho] at ih
              have fm := hf m
              have dm := dl m
              have em : lst F (some m) = 101 - F m := rfl
              refine ⟨fun z => ?_, fun z => ?_⟩
              · rw [if_neg (fun y => by have := y.2; omega)] at ih
                exact ih _ I2 f12
              · rw [if_pos ⟨by rw [oi]; exact decide_eq_true q1, by omega⟩] at ih
                have e : lst F (some i) = due (fun n => decide (byW w b i n = w 4)) := by show 101 - F i = _; omega
                have ih' := ih (.int (nI (due (fun n => decide (byW w b i n = w 4))))) I2 f12
                rw [e] at ih'
                exact ih'
      exact key .null I (FR.refl I)
    · intro I1 L1 c1 s1 h1 K g
      have hR := h1.2.1
      refine w_X11_best_0 (by omega) (rqM (hR.g (by omega)) (by omega) (fun z => absurd hv z) fun _ => ?_)
      have fj := FM.th I1 0
      have t0 := thr0 (I := I1) (v := 0)
      have hR1 : RM w (dd_u I1 148 (upd (I1 148) 0 0)) := hR.of (dd_un (by decide))
      generalize dd_u I1 148 (upd (I1 148) 0 0) = J at *
      have key : ∀ (a5 : Value) I', RM w I' → FB J I' → dd_Rn d m_X11_best (28, [.ref 148, .int (nI b), .int (oI (amA F ok 0)), .int (nI (lst F (amA F ok 0))), .int (nI 0), a5], [], sM Ln I' L1 c1 s1) (dd_RI Ln c1 s1 K) := by
        refine dd_lp (fun i => ∀ (a5 : Value) I', RM w I' → FB J I' → dd_Rn d m_X11_best (28, [.ref 148, .int (nI b), .int (oI (amA F ok i)), .int (nI (lst F (amA F ok i))), .int (nI i), a5], [], sM Ln I' L1 c1 s1) (dd_RI Ln c1 s1 K)) (w 0) ?_ ?_
        · intro a5 I2 r2 f2
          refine w_X11_best_28 (by omega) ?_
          rw [r2.g (by omega), nI_leI (by omega) (by omega)]
          exact ⟨fun _ => mqJ r2 (fj.trans (FM.b f2)) (by rw [f2.2 0 (by decide)]; exact t0) rfl g, fun q => absurd (Nat.le_refl _) q⟩
        · intro i hi' ih a5 I2 r2 f2
          refine w_X11_best_28 (by omega) ?_
          rw [r2.g (by omega), nI_leI (by omega) (by omega)]
          refine ⟨fun q => absurd q (by omega), fun _ => ?_⟩
          refine M_soonBy (w := w) (by omega) r2 hO hi hb (by omega) fun I3 r3 f3 => ?_
          simp only [nI_1]
          have f23 := f2.trans f3
          have di := dl i
          have fi := hf i
          have oi := hok i
          have ll : lst F (amA F ok i) ≤ 101 := by unfold lst; split <;> omega
          simp (disch := omega) only [nI_leI, nI_ltI, ite_n]
          cases ho : amA F ok i with
          | none =>
            rw [amA_n ho] at ih
            have e1 : lst F none = 101 := rfl
            rw [e1]
            refine ⟨fun z => ?_, fun z => ?_⟩
            · rw [if_neg (by rw [oi, decide_eq_false (by omega)]; decide)] at ih
              rw [if_neg (by omega)]
              exact ih _ I3 r3 f23
            · rw [if_pos (by rw [oi]; exact decide_eq_true (by omega))] at ih
              rw [if_pos (by omega)]
              have e : lst F (some i) = due (fun n => decide (byW w b i n = w 4)) := by show 101 - F i = _; omega
              have ih' := ih (.int (nI (due (fun n => decide (byW w b i n = w 4))))) I3 r3 f23
              rw [e] at ih'
              exact ih'
          | some m =>
            rw [amA_m ho] at ih
            have fm := hf m
            have dm := dl m
            have em : lst F (some m) = 101 - F m := rfl
            refine ⟨fun z => ?_, fun z => ?_⟩
            · rw [if_neg (fun y => by have := y.2; omega)] at ih
              rw [if_neg (by omega)]
              exact ih _ I3 r3 f23
            · rw [if_pos ⟨by rw [oi]; exact decide_eq_true (by omega), by omega⟩] at ih
              rw [if_pos (by omega)]
              have e : lst F (some i) = due (fun n => decide (byW w b i n = w 4)) := by show 101 - F i = _; omega
              have ih' := ih (.int (nI (due (fun n => decide (byW w b i n = w 4))))) I3 r3 f23
              rw [e] at ih'
              exact ih'
      exact key .null J hR1 (FR.refl J)
  · refine PW.q h _ 0 (WR1 (e1 := 2) (o := some 2) (w_L_best_0 (by omega)) (Or.inr rfl) ?_) ?_
    · intro K T g1 g2
      exact w_X10_best_0 (by omega) (rqC hC.boys (fun _ => dd_qX (g2 2 rfl)) fun z => absurd z hv)
    · intro I1 L1 c1 s1 h1 K g
      have hR := h1.2.1
      refine w_X11_best_0 (by omega) ?_
      rw [dd_u_u, upd_uu]
      exact rqM (hR.g (by omega)) (by omega) (fun _ => mqT hR (by decide) g) fun z => absurd z hv
