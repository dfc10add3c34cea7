/-! Questions: the most of all: quiet, far, worst, ferny; who is out -/
def amA (f : Nat → Nat) (ok : Nat → Bool) : Nat → Option Nat := lpf (fun b o => match o with | none => if ok b = true then some b else none | some m => if ok b = true ∧ f m < f b then some b else some m) none
theorem amA_s (f : Nat → Nat) (ok : Nat → Bool) (i : Nat) : amA f ok (i + 1) = match amA f ok i with | none => if ok i = true then some i else none | some m => if ok i = true ∧ f m < f i then some i else some m := rfl
theorem amA_n {f : Nat → Nat} {ok : Nat → Bool} {i : Nat} (h : amA f ok i = none) : amA f ok (i + 1) = if ok i = true then some i else none := by rw [amA_s, h]
theorem amA_m {f : Nat → Nat} {ok : Nat → Bool} {i m : Nat} (h : amA f ok i = some m) : amA f ok (i + 1) = if ok i = true ∧ f m < f i then some i else some m := by rw [amA_s, h]
theorem amA_lt {f : Nat → Nat} {ok : Nat → Bool} : ∀ {n m}, amA f ok n = some m → m < n := by
  intro n
  induction n with
  | zero => intro m h; cases h
  | succ n ih =>
    intro m h
    rw [amA_s] at h
    split at h
    · split at h
      · cases h; omega
      · cases h
    · rename_i k hk
      split at h
      · cases h; omega
      · cases h
        have := ih hk
        omega
def mst (f : Nat → Nat) (o : Option Nat) : Int32 := match o with | none => -1 | some m => nI (f m)
def mst0 (f : Nat → Nat) (o : Option Nat) : Int32 := match o with | none => 0 | some m => nI (f m)
theorem A_quiet {d Ln c s : Nat} {I0 I : Nat → Nat → Int32} {L : Nat → Nat → Int64} {w : Nat → Nat} {im : Option (Nat → Nat)} {na od : Nat} {A : Nat → Nat → Nat} {tp : Nat → Nat} {tl : Nat} {fa : Option Nat} (hd : 60 ≤ d) (h : INV I0 w im na od A tp tl fa I L) : PIw d m_X10_quiet [.ref 0] m_X11_quiet [.ref 148] I0 Ln c s I L := by
  have hO := h.1.1
  have w0 := hO.1.1
  have hC := h.2.2.1
  have fl : ∀ p, silA w p 8 ≤ 8 := fun p => silA_le 8
  refine PIw.q h (oI (amA (fun p => silA w p 8) (fun _ => true) (w 0))) ?_ ?_
  · intro K g
    refine w_X10_quiet_0 (by omega) ?_
    have key : ∀ a4 : Value, dd_Rn d m_X10_quiet (6, [.ref 0, .int (oI (amA (fun p => silA w p 8) (fun _ => true) 0)), .int (mst (fun p => silA w p 8) (amA (fun p => silA w p 8) (fun _ => true) 0)), .int (nI 0), a4], [], sM Ln I L c s) (dd_RI Ln c s K) := by
      refine dd_lp (fun i => ∀ a4 : Value, dd_Rn d m_X10_quiet (6, [.ref 0, .int (oI (amA (fun p => silA w p 8) (fun _ => true) i)), .int (mst (fun p => silA w p 8) (amA (fun p => silA w p 8) (fun _ => true) i)), .int (nI i), a4], [], sM Ln I L c s) (dd_RI Ln c s K)) (w 0) ?_ ?_
      · intro a4
        refine w_X10_quiet_6 (by omega) ?_
        rw [hC.parts, nI_leI (by omega) (by omega)]
        exact ⟨fun _ => dd_qi (g I L (FC.refl I L)), fun q => absurd (Nat.le_refl _) q⟩
      · intro i hi ih a4
        refine w_X10_quiet_6 (by omega) ?_
        rw [hC.parts, nI_leI (by omega) (by omega)]
        refine ⟨fun q => absurd q (by omega), fun _ => ?_⟩
        refine C_silencesOf (by omega) hC hO (by omega) ?_
        simp only [nI_1]
        have fi := fl i
        cases ho : amA (fun p => silA w p 8) (fun _ => true) i with
        | none =>
          rw [amA_n ho, if_pos rfl] at ih
          refine ⟨fun q => ?_, fun _ => ih _⟩
          have : (nI (silA w i 8) ≤ -1) = False := nI_nle1 (by omega)
          exact (this ▸ q : False).elim
        | some m =>
          rw [amA_m ho] at ih
          have fm := fl m
          have ih' := ih (.int (nI (silA w i 8)))
          show (nI (silA w i 8) ≤ nI (silA w m 8) → _) ∧ (¬ nI (silA w i 8) ≤ nI (silA w m 8) → _)
          rw [nI_leI (by omega) (by omega)]
          refine ⟨fun q => ?_, fun q => ?_⟩
          · rw [if_neg (fun z => by have := z.2; omega)] at ih'
            exact ih'
          · rw [if_pos ⟨rfl, by omega⟩] at ih'
            exact ih'
    exact key .null
  · intro I1 L1 h1 K g
    have hR := h1.2.1
    refine w_X11_quiet_0 (by omega) ?_
    have fj := FM.th I1 0
    have t0 := thr0 (I := I1) (v := 0)
    have hR1 : RM w (dd_u I1 148 (upd (I1 148) 0 0)) := hR.of (dd_un (by decide))
    generalize dd_u I1 148 (upd (I1 148) 0 0) = J at *
    refine dd_lp (fun i => dd_Rn d m_X11_quiet (9, [.ref 148, .int (oI (amA (fun p => silA w p 8) (fun _ => true) i)), .int (nI i)], [], sM Ln J L1 c s) (dd_RI Ln c s K)) (w 0) ?_ ?_
    · refine w_X11_quiet_9 (by omega) ?_
      rw [hR1.g (by omega), nI_leI (by omega) (by omega)]
      exact ⟨fun _ => mqJ hR1 fj t0 rfl g, fun q => absurd (Nat.le_refl _) q⟩
    · intro i hi ih
      have fi := fl i
      refine w_X11_quiet_9 (by omega) ?_
      rw [hR1.g (by omega), nI_leI (by omega) (by omega)]
      simp only [nI_1]
      refine ⟨fun q => absurd q (by omega), fun _ => ?_⟩
      cases ho : amA (fun p => silA w p 8) (fun _ => true) i with
      | none =>
        rw [amA_n ho, if_pos rfl] at ih
        exact ⟨fun _ => ih, fun q => absurd rfl q⟩
      | some m =>
        rw [amA_m ho] at ih
        have hm := amA_lt ho
        have fm := fl m
        have ne : ¬ oI (some m) = -1 := fun z => by
          have : (nI m = -1) = False := nI_nm (by omega)
          exact (this ▸ z : False)
        refine ⟨fun q => absurd q ne, fun _ => ?_⟩
        refine M_silenceOf (by omega) hR1 hO (by omega) ?_
        refine M_silenceOf (by omega) hR1 hO (by omega) ?_
        rw [nI_leI (by omega) (by omega)]
        refine ⟨fun q => ?_, fun q => ?_⟩
        · rw [if_neg (fun z => by have := z.2; omega)] at ih
          exact ih
        · rw [if_pos ⟨rfl, by omega⟩] at ih
          exact ih
theorem A_out {d Ln c s : Nat} {I0 I : Nat → Nat → Int32} {L : Nat → Nat → Int64} {w : Nat → Nat} {im : Option (Nat → Nat)} {na od : Nat} {A : Nat → Nat → Nat} {tp : Nat → Nat} {tl : Nat} {fa : Option Nat} (hd : 60 ≤ d) (h : INV I0 w im na od A tp tl fa I L) : PIw d m_X10_out [.ref 0] m_X11_out [.ref 148] I0 Ln c s I L := by
  have hO := h.1.1
  have w1 := hO.1.2.1
  have hC := h.2.2.1
  have bits : ∀ v : Int32, outV w v → (((1 : Int32) <<< (nI (w 1) &&& 31)) - 1) &&& (I 1 12 ^^^ (-1)) = v := by
    intro v hv
    refine bX_ext fun i hi => ?_
    rw [hv i hi, bX_and, bX_not _ hi, hC.isin hi]
    have e : bX (((1 : Int32) <<< (nI (w 1) &&& 31)) - 1) i = decide (i < w 1) := by
      have e1 : (1 : Int32) <<< (nI (w 1) &&& 31) = nI (2 ^ w 1) := by
        have := pk_shlN (n := 1) (nI (w 1) &&& 31) (w 1) (sh_x ⟨w 1, by omega⟩) (by
          have : w 1 = 0 ∨ w 1 = 1 ∨ w 1 = 2 ∨ w 1 = 3 ∨ w 1 = 4 ∨ w 1 = 5 ∨ w 1 = 6 := by omega
          rcases this with q | q | q | q | q | q | q <;> rw [q] <;> decide)
        rw [Nat.one_mul] at this
        exact this
      rw [e1, show nI (2 ^ w 1) - 1 = nI (2 ^ w 1 - 1) from pk_sub (a := 2 ^ w 1) (b := 1) (Nat.one_le_two_pow), bX_n hi, Nat.testBit_two_pow_sub_one]
    rw [e]
    by_cases q : i < w 1
    · rw [decide_eq_true q, decide_eq_true (by omega : i < 6), Bool.true_and, Bool.true_and, Bool.true_and]
    · rw [decide_eq_false q, Bool.false_and, Bool.false_and]
  refine PIw.q h ((((1 : Int32) <<< (nI (w 1) &&& 31)) - 1) &&& (I 1 12 ^^^ (-1))) ?_ ?_
  · intro K g
    refine w_X10_out_0 (by omega) (w_X8_lostBoys_0 (by omega) ?_)
    rw [hC.boys]
    exact dd_qi (dd_qi (g I L (FC.refl I L)))
  · intro I1 L1 h1 K g
    have hR := h1.2.1
    refine w_X11_out_0 (by omega) ?_
    refine M_outOnes (w := w) (by omega) (hR.of (dd_un (by decide))) hO fun v hv => ?_
    exact mqR hR (bits v hv).symm g
