/-! Questions: sooner, meet, mends -/
theorem wkB_l {w : Nat → Nat} (hO : OKW w) {l b : Nat} (hb : b ≤ 6) (n : Nat) : wkB (upw w 5 l) b n = wkl w l b n := by
  have bc := (hO.2.2.2.1 b hb).2.1
  have b2 := (hO.2.2.2.1 b hb).2.2.1
  have eU : env w (upw w 5 l) := env_up (by omega) (by omega) (by omega) (by omega)
  have er : prow (upw w 5 l) (w (187 + 5 * b + 1)) = prow w (w (187 + 5 * b + 1)) := by
    funext j
    unfold prow
    rw [upw_ne (by omega)]
  unfold wkB
  rw [upw_eq, upw_ne (by omega), upw_ne (by omega), upw_ne (by omega), upw_ne (by omega), upw_ne (by omega), er, wk_env eU bc]
theorem RV_loud {w : Nat → Nat} {b l : Nat} {I : Nat → Nat → Int32} (h : RVb 133 w b I) : RV 133 b (w (187 + 5 * b + 1)) (w (187 + 5 * b + 2)) (w (187 + 5 * b + 4)) (w 7) l (prow w (w (187 + 5 * b + 1))) (w (187 + 5 * b)) (w 4) (dd_u I 133 (upd (I 133) 5 (nI l))) := by
  obtain ⟨⟨q0, q1, q2, q6, q7, qr, ql⟩, q3, q4, q5, qc⟩ := h
  refine ⟨⟨?_, ?_, ?_, ?_, ?_, ?_, ?_⟩, ?_, ?_, ?_, ?_⟩
  · rw [dd_un (by decide)]; exact q0
  · rw [dd_un (by decide)]; exact q1
  · rw [dd_un (by decide)]; exact q2
  · rw [dd_un (by decide)]; exact q6
  · rw [dd_un (by decide)]; exact q7
  · rw [dd_un (by decide)]; exact qr
  · rw [dd_us, pk_us]
  · rw [dd_un (by decide)]; exact q3
  · rw [dd_un (by decide)]; exact q4
  · rw [dd_un (by decide)]; exact q5
  · rw [dd_us, pk_un (by decide)]; exact qc
/-- the least due: with what one begins, and what counts -/
def lsD (D : Nat → Nat) (D0 : Nat) (o : Option Nat) : Nat := match o with | none => D0 | some m => D m
theorem A_sooner {d Ln c s : Nat} {I0 I : Nat → Nat → Int32} {L : Nat → Nat → Int64} {w : Nat → Nat} {im : Option (Nat → Nat)} {na od : Nat} {A : Nat → Nat → Nat} {tp : Nat → Nat} {tl : Nat} {fa : Option Nat} (hd : 60 ≤ d) (h : INV I0 w im na od A tp tl fa I L) : PIw d m_X10_sooner [.ref 0] m_X11_sooner [.ref 148] I0 Ln c s I L := by
  have hO := h.1.1
  have hi := h.1.2.1
  have w1 := hO.1.2.1
  have hC := h.2.2.1
  have hk : (133 : Nat) = 133 ∨ (133 : Nat) = 136 := Or.inl rfl
  have dl : ∀ b, dul w 15 b ≤ 101 := fun b => due_le _
  have hf : ∀ b, (fun b => 101 - dul w 15 b) b = 101 - dul w 15 b := fun _ => rfl
  have hok : ∀ b, (fun b => !decide (w (187 + 5 * b + 3) = 1) && decide (dul w 15 b < 101)) b = (!decide (w (187 + 5 * b + 3) = 1) && decide (dul w 15 b < 101)) := fun _ => rfl
  generalize (fun b => 101 - dul w 15 b) = F at *
  generalize (fun b => !decide (w (187 + 5 * b + 3) = 1) && decide (dul w 15 b < 101)) = ok at *
  have keep : ∀ i, ok i = false → amA F ok (i + 1) = amA F ok i := by
    intro i hz
    cases ho : amA F ok i with
    | none => rw [amA_n ho, if_neg (by rw [hz]; decide)]
    | some m => rw [amA_m ho, if_neg (fun z => by have := z.1; rw [hz] at this; cases this)]
  have lsm : ∀ o : Option Nat, lsD (dul w 15) 101 o ≤ 101 := by
    intro o
    cases o with
    | none => exact Nat.le_refl _
    | some m => exact dl m
  have step : ∀ i, ok i = true → (lsD (dul w 15) 101 (amA F ok i) ≤ dul w 15 i → amA F ok (i + 1) = amA F ok i) ∧ (¬ lsD (dul w 15) 101 (amA F ok i) ≤ dul w 15 i → amA F ok (i + 1) = some i) := by
    intro i hz
    have hz' := hok i
    rw [hz] at hz'
    have d1 : dul w 15 i < 101 := by
      have := hz'.symm
      rw [Bool.and_eq_true] at this
      exact of_decide_eq_true this.2
    cases ho : amA F ok i with
    | none =>
      rw [amA_n ho, if_pos hz]
      refine ⟨fun z => ?_, fun _ => rfl⟩
      have : (101 : Nat) ≤ dul w 15 i := z
      omega
    | some m =>
      rw [amA_m ho]
      have fm := hf m
      have fi := hf i
      have dm := dl m
      have e : lsD (dul w 15) 101 (some m) = dul w 15 m := rfl
      rw [e]
      exact ⟨fun z => by rw [if_neg (fun y => by have := y.2; omega)], fun z => by rw [if_pos ⟨hz, by omega⟩]⟩
  refine PIw.q h (oI (amA F ok (w 1))) ?_ ?_
  · intro K g
    refine w_X10_sooner_0 (by omega) ?_
    have key : ∀ (a4 : Value) I', FV 133 I I' → dd_Rn d m_X10_sooner (7, [.ref 0, .int (oI (amA F ok 0)), .int (nI (lsD (dul w 15) 101 (amA F ok 0))), .int (nI 0), a4], [], sM Ln I' L c s) (dd_RI Ln c s K) := by
      refine dd_lp (fun i => ∀ (a4 : Value) I', FV 133 I I' → dd_Rn d m_X10_sooner (7, [.ref 0, .int (oI (amA F ok i)), .int (nI (lsD (dul w 15) 101 (amA F ok i))), .int (nI i), a4], [], sM Ln I' L c s) (dd_RI Ln c s K)) (w 1) ?_ ?_
      · intro a4 I1 f1
        refine w_X10_sooner_7 (by omega) ?_
        rw [(hC.fr f1 (kA hk)).boys, nI_leI (by omega) (by omega)]
        exact ⟨fun _ => dd_qi (g I1 L (FC.v hk f1)), fun q => absurd (Nat.le_refl _) q⟩
      · intro i hi' ih a4 I1 f1
        obtain ⟨_, b1, b2, b3, b4, b5⟩ := hO.2.2.2.1 i (by omega)
        have c1 := hC.fr f1 (kA hk)
        refine w_X10_sooner_7 (by omega) ?_
        rw [c1.boys, nI_leI (by omega) (by omega)]
        refine ⟨fun q => absurd q (by omega), fun _ => ?_⟩
        refine C_follow (by omega) hk c1 hO (by omega) fun I2 v2 f2 => ?_
        have f12 := f1.trans f2
        have v3 := RV_loud (l := 15) v2
        have f3 : FV 133 I (dd_u I2 133 (upd (I2 133) 5 (nI 15))) := f12.u (by decide) (by decide)
        refine C_comesIn (by omega) hk (hC.fr f3 (kA hk)) hO (h.2.2.2.1.fr f3 (kA26 hk)) v3 (by omega) b2 b3 b5 hO.1.2.2.2.2.2.2.1 (by omega) b1 (fun j hj => hO.2.2.1 _ b2 j hj) fun I4 f4 => ?_
        have f34 := f3.trans f4
        refine C_isIn (by omega) (hC.fr f34 (kA hk)) (by omega) ?_
        simp only [nI_1, bI_0]
        have oi := hok i
        have ll := lsm (amA F ok i)
        have di := dl i
        rcases due_o (fun n => decide (wkl w 15 i n = w 4)) with ⟨z1, z2⟩ | ⟨z1, z2⟩
        · have z1' : dul w 15 i = 101 := z1
          rw [z2]
          have nk : ok i = false := by rw [oi, decide_eq_false (show ¬ dul w 15 i < 101 by omega), Bool.and_false]
          rw [keep i nk] at ih
          exact ⟨fun _ => ⟨fun _ => ih _ I4 f34, fun y => absurd rfl y⟩, fun _ => ih _ I4 f34⟩
        · have z1' : dul w 15 i < 101 := z1
          have z2' : oI (frst (fun n => decide (wkl w 15 i n = w 4)) 101) = nI (dul w 15 i) := z2
          rw [z2']
          have ne : ¬ nI (dul w 15 i) = -1 := fun z => by
            have e : (nI (dul w 15 i) = -1) = False := nI_nm (by omega)
            exact (e ▸ z : False)
          rw [nI_leI (by omega) (by omega)]
          refine ⟨fun q => ⟨fun y => absurd y ne, fun _ => ?_⟩, fun q => ?_⟩
          · have nk : ok i = true := by rw [oi, q, decide_eq_true z1']; rfl
            obtain ⟨s1, s2⟩ := step i nk
            refine ⟨fun y => ?_, fun y => ?_⟩
            · rw [s1 y] at ih
              exact ih _ I4 f34
            · rw [s2 y] at ih
              exact ih _ I4 f34
          · rw [Bool.not_eq_false] at q
            have nk : ok i = false := by rw [oi, q]; rfl
            rw [keep i nk] at ih
            exact ih _ I4 f34
    exact key .null I (FR.refl I)
  · intro I1 L1 h1 K g
    have hR := h1.2.1
    refine w_X11_sooner_0 (by omega) ?_
    have fj := FM.th I1 0
    have t0 := thr0 (I := I1) (v := 0)
    have hR1 : RM w (dd_u I1 148 (upd (I1 148) 0 0)) := hR.of (dd_un (by decide))
    generalize dd_u I1 148 (upd (I1 148) 0 0) = J at *
    have oU : OKW (upw w 5 15) := okW_s hO (by omega) (by omega) (by omega)
    have iU : inbs (upw w 5 15) := inbs_up hi (by omega) (by omega) (fun b' => by omega)
    have key : ∀ (a4 : Value) I', RM w I' → FB J I' → dd_Rn d m_X11_sooner (12, [.ref 148, .int (oI (amA F ok 0)), .int (nI (lsD (dul w 15) 101 (amA F ok 0))), .int (nI 0), a4], [], sM Ln I' L1 c s) (dd_RI Ln c s K) := by
      refine dd_lp (fun i => ∀ (a4 : Value) I', RM w I' → FB J I' → dd_Rn d m_X11_sooner (12, [.ref 148, .int (oI (amA F ok i)), .int (nI (lsD (dul w 15) 101 (amA F ok i))), .int (nI i), a4], [], sM Ln I' L1 c s) (dd_RI Ln c s K)) (w 1) ?_ ?_
      · intro a4 I2 r2 f2
        refine w_X11_sooner_12 (by omega) ?_
        rw [r2.g (by omega), nI_leI (by omega) (by omega)]
        exact ⟨fun _ => mqJ r2 (fj.trans (FM.b f2)) (by rw [f2.2 0 (by decide)]; exact t0) rfl g, fun q => absurd (Nat.le_refl _) q⟩
      · intro i hi' ih a4 I2 r2 f2
        obtain ⟨_, b1, b2, b3, b4, b5⟩ := hO.2.2.2.1 i (by omega)
        have ei : tn ((187 : Int32) + (5 : Int32) * nI i + 3) = 187 + 5 * i + 3 := by
          rw [li_187, li_5, li_3, pk_mul, nI_add, nI_add]
          exact nI_clamp (by omega)
        have e0 : 0 ≤ (187 : Int32) + (5 : Int32) * nI i + 3 := by
          rw [li_187, li_5, li_3, pk_mul, nI_add, nI_add]
          exact nI_pos' (by omega)
        have oi := hok i
        have ll := lsm (amA F ok i)
        have di := dl i
        refine w_X11_sooner_12 (by omega) ?_
        rw [ei, r2.g (by omega), r2.g (by omega), nI_leI (by omega) (by omega)]
        simp only [nI_1]
        refine ⟨fun q => absurd q (by omega), fun _ => ⟨⟨e0, by omega⟩, ?_⟩⟩
        rw [show ((nI (w (187 + 5 * i + 3)) = (1 : Int32)) = (w (187 + 5 * i + 3) = 1)) from propext (nI_eq (b := 1) (by omega) (by omega))]
        refine ⟨fun q => ?_, fun q => ?_⟩
        · have nk : ok i = false := by rw [oi, decide_eq_true q]; rfl
          rw [keep i nk] at ih
          exact ih _ I2 r2 f2
        · refine M_keepsAll (w := w) (by omega) r2 fun f hf' => ?_
          have hR2 : RM w (dd_u I2 152 f) := r2.of (dd_un (by decide))
          have rU : RM (upw w 5 15) (dd_u (dd_u I2 152 f) 149 (upd (dd_u I2 152 f 149) 5 (nI 15))) := RM.set (nu hR2 5 15)
          refine M_soonFor (m := (1 : Int32) <<< (nI i &&& 31)) (w := upw w 5 15) (w0 := w) (by omega) rU oU (fun j hj => by rw [dd_un (by decide), dd_us]; exact hf' j hj) (fun j hj => upw_ne (by omega)) fun I3 r3 f3 => ?_
          have ed : due (fun n => allIn (goA true (upw w 5 15) n).1 ((1 : Int32) <<< (nI i &&& 31))) = dul w 15 i := by
            refine due_cong fun n => ?_
            rw [soonB oU iU (by rw [upw_ne (by omega)]; exact hi') n, wkB_l hO (by omega), upw_ne (by omega)]
          rw [ed]
          have f23 : FB J I3 := (((f2.u (by decide) (by decide)).u (by decide) (by decide)).trans (f3.mono (by decide) (by decide)))
          simp (disch := omega) only [nI_leI, nI_ltI, ite_n]
          by_cases q1 : dul w 15 i < 101
          · have nk : ok i = true := by rw [oi, decide_eq_false q, decide_eq_true q1]; rfl
            obtain ⟨s1, s2⟩ := step i nk
            refine ⟨fun y => ?_, fun y => ?_⟩
            · rw [s1 y] at ih
              rw [if_neg (by omega)]
              exact ih _ I3 r3 f23
            · rw [s2 y] at ih
              rw [if_pos (by omega)]
              exact ih _ I3 r3 f23
          · have nk : ok i = false := by rw [oi, decide_eq_false q1, Bool.and_false]
            rw [keep i nk] at ih
            refine ⟨fun y => ?_, fun y => absurd (by omega) y⟩
            rw [if_neg (by omega)]
            exact ih _ I3 r3 f23
    exact key .null J hR1 (FR.refl J)
