/-! The class: beats on and on -/
theorem ist_o {w : Nat → Nat} {b x j : Nat} (h1 : j ≠ 187 + 5 * b) (h2 : j ≠ 187 + 5 * b + 3) : ist w b x j = w j := by
  unfold ist
  split
  · rw [upw_ne h2, upw_ne h1]
  · rw [upw_ne h1]
theorem ist_in {w : Nat → Nat} {b x : Nat} (hn : ¬ w (187 + 5 * b + 3) = 1) : ist w b x (187 + 5 * b + 3) = 1 ↔ ist w b x (187 + 5 * b) = w 4 := by
  unfold ist
  split
  · rename_i q
    rw [upw_eq, upw_ne (by omega), upw_eq]
    exact ⟨fun _ => q, fun _ => rfl⟩
  · rename_i q
    rw [upw_ne (by omega), upw_eq]
    exact ⟨fun h => absurd h hn, fun h => absurd h q⟩
theorem stry_o {w : Nat → Nat} {b j : Nat} (hj : j < 222) (h9 : j ≠ 9) (h10 : j ≠ 10) (hb : j < 187 + 5 * b ∨ 187 + 5 * b + 5 ≤ j) : stry w b j = w j := by
  unfold stry
  split
  · exact drw_ne h10
  · rw [tel_lo hj h9]
    unfold str3 str2
    rw [upw_ne (by omega), ist_o (by omega) (by omega), drw_ne h10, drw_ne h10]
theorem stry_in {w : Nat → Nat} {b : Nat} (hb : b ≤ 6) (hi : inb w b) (hn : ¬ w (187 + 5 * b + 3) = 1) : inb (stry w b) b := by
  have e4 : stry w b 4 = w 4 := stry_o (by omega) (by omega) (by omega) (by omega)
  unfold inb
  rw [e4]
  unfold stry
  split
  · rw [drw_ne (by omega), drw_ne (by omega)]
    exact hi
  · rw [tel_lo (by omega) (by omega), tel_lo (by omega) (by omega)]
    unfold str3 str2
    rw [upw_ne (by omega), upw_ne (by omega)]
    have := ist_in (w := drw (drw w)) (b := b) (x := stp (drw (drw w)) (drw (drw w) (187 + 5 * b)) (1 + drn (drw w) 4)) (by rw [drw_ne (by omega), drw_ne (by omega)]; exact hn)
    rw [drw_ne (show (4 : Nat) ≠ 10 by omega), drw_ne (show (4 : Nat) ≠ 10 by omega)] at this
    exact this
theorem oneG_o {w : Nat → Nat} {cm : Bool} {b j : Nat} (hj : j < 222) (h9 : j ≠ 9) (h10 : j ≠ 10) (hb : j < 187 + 5 * b ∨ 187 + 5 * b + 5 ≤ j) : oneG cm w b j = w j := by
  unfold oneG
  split
  · rw [stry_o hj h9 h10 hb, gbW_o (by omega) (by omega)]
  · exact gbW_o (by omega) (by omega)
theorem oneG_in {w : Nat → Nat} {cm : Bool} {b : Nat} (hb : b ≤ 6) (hi : inb w b) (hn : ¬ w (187 + 5 * b + 3) = 1) : inb (oneG cm w b) b := by
  unfold oneG
  split
  · rename_i q
    have e : gbW w b (ntB w b) = w := by
      rw [Bool.and_eq_true] at q
      have q1 := q.1
      unfold gbS at q1
      rw [Bool.and_eq_true, Bool.and_eq_true] at q1
      unfold gbW
      rw [if_pos (Or.inr (Or.inr (by have := q1.2; rw [Bool.not_eq_true'] at this; exact this)))]
    rw [e]
    exact stry_in hb hi hn
  · unfold inb
    rw [gbW_o (by omega) (by omega) (j := 4)]
    exact gbW_in hi hb
theorem oneB_o2 {w : Nat → Nat} {cm : Bool} {b j : Nat} (hj : j < 222) (h9 : j ≠ 9) (h10 : j ≠ 10) (hb : j < 187 + 5 * b ∨ 187 + 5 * b + 5 ≤ j) : oneB cm b w j = w j := by
  unfold oneB
  split
  · rfl
  · split
    · rw [tel_lo hj h9, oneG_o hj h9 h10 hb]
    · exact oneG_o hj h9 h10 hb
theorem oneB_in2 {w : Nat → Nat} {cm : Bool} {b b' : Nat} (hb : b ≤ 6) (hb' : b' ≤ 6) (hi : inb w b) (hi' : inb w b') : inb (oneB cm b w) b' := by
  have e4 : oneB cm b w 4 = w 4 := oneB_o2 (by omega) (by omega) (by omega) (by omega)
  by_cases q : b' = b
  · subst q
    unfold inb
    rw [e4]
    unfold oneB
    split
    · exact hi
    · rename_i hn
      have h := oneG_in (cm := cm) hb hi hn
      unfold inb at h
      rw [oneG_o (j := 4) (by omega) (by omega) (by omega) (by omega)] at h
      split
      · rw [tel_lo (by omega) (by omega), tel_lo (by omega) (by omega)]
        exact h
      · exact h
  · unfold inb
    rw [e4, oneB_o2 (by omega) (by omega) (by omega) (by omega), oneB_o2 (by omega) (by omega) (by omega) (by omega)]
    exact hi'
def inbs (w : Nat → Nat) : Prop := ∀ b, b < w 1 → inb w b
theorem boysA_in {w : Nat → Nat} {cm : Bool} (hO : OKW w) (hi : inbs w) : ∀ i, i ≤ w 1 → ∀ b, b < w 1 → inb (boysA cm w i).1 b := by
  have h1 := hO.1.2.1
  intro i
  induction i with
  | zero => intro _; exact hi
  | succ i ih =>
    intro hle b hb
    exact oneB_in2 (by omega) (by omega) (ih (by omega) i (by omega)) (ih (by omega) b hb)
theorem beatA_in {w : Nat → Nat} {cm : Bool} (hO : OKW w) (hi : inbs w) : inbs (beatA cm w).1 := by
  have h1 := hO.1.2.1
  have s1 := (beatA_ok hO (cm := cm)).2 1 (by omega)
  intro b hb
  rw [s1] at hb
  have := boysA_in (cm := cm) hO hi (w 1) (Nat.le_refl _) b hb
  have e : (beatA cm w).1 = bend (boysA cm w (w 1)).1 := rfl
  rw [e]
  unfold inb at *
  rw [bend_o (by omega) (by omega), bend_o (by omega) (by omega), bend_o (by omega) (by omega)]
  exact this
theorem goA_in {w : Nat → Nat} {cm : Bool} (hO : OKW w) (hi : inbs w) : ∀ n, inbs (goA cm w n).1 := by
  intro n
  induction n with
  | zero => exact hi
  | succ n ih => exact beatA_in (goA_ok hO n).1 ih
theorem C_beatB {d Ln c s : Nat} {I : Nat → Nat → Int32} {L : Nat → Nat → Int64} {K : Int32 → (Nat → Nat → Int32) → (Nat → Nat → Int64) → Prop} {w : Nat → Nat} {n i : Nat} {m : Nat} (hd : 34 ≤ d) (hC : RC w I L) (hO : OKW w) (hL : RLw w I) (hi : inbs w) (kk : ∀ I' a4, RC (beatA false w).1 I' L → FR 25 BN [3, 4] I I' → dd_Rn d m_X10_beatOn (4, [.ref 0, .int (nI n), .int (nI (m + (beatA false w).2)), .int (nI (i + 1)), a4], [], sM Ln I' L c s) (dd_RI Ln c s K)) : dd_Rn d m_X10_beatOn (12, [.ref 0, .int (nI n), .int (nI m), .int (nI i), .int (nI 0)], [], sM Ln I L c s) (dd_RI Ln c s K) := by
  have h1 := hO.1.2.1
  have key : ∀ I', RC (boysA false w 0).1 I' L → FR 25 BN [3, 4] I I' → dd_Rn d m_X10_beatOn (12, [.ref 0, .int (nI n), .int (nI (m + (boysA false w 0).2)), .int (nI i), .int (nI 0)], [], sM Ln I' L c s) (dd_RI Ln c s K) := by
    refine dd_lp (fun b => ∀ I', RC (boysA false w b).1 I' L → FR 25 BN [3, 4] I I' → dd_Rn d m_X10_beatOn (12, [.ref 0, .int (nI n), .int (nI (m + (boysA false w b).2)), .int (nI i), .int (nI b)], [], sM Ln I' L c s) (dd_RI Ln c s K)) (w 1) ?_ ?_
    · intro I1 c1 f1
      obtain ⟨o1, s1⟩ := boysA_ok hO (cm := false) (w 1) h1
      have e1 : (boysA false w (w 1)).1 1 = w 1 := s1 1 (by omega)
      refine w_X10_beatOn_12 (by omega) ?_
      rw [c1.boys, e1]
      refine ⟨fun _ => ?_, fun q => absurd (nI_le (Nat.le_refl _) (by omega)) q⟩
      refine C_endBeat (by omega) c1 o1.1.2.2.2.2.2.2.1 o1.1.2.2.2.2.2.2.2.1 fun I2 c2 f2 => ?_
      rw [nI_1]
      exact kk I2 _ c2 (f1.trans (BNs f2 (by decide)))
    · intro b hb ih I1 c1 f1
      obtain ⟨o1, s1⟩ := boysA_ok hO (cm := false) b (by omega)
      have e1 : (boysA false w b).1 1 = w 1 := s1 1 (by omega)
      have hib := boysA_in (cm := false) hO hi b (by omega) b hb
      have l1 : RLw (boysA false w b).1 I1 := (hL.fr f1 (by decide)).cong s1.L
      have ih' : ∀ I', RC (oneB false b (boysA false w b).1) I' L → FR 25 BN [3, 4] I I' → dd_Rn d m_X10_beatOn (12, [.ref 0, .int (nI n), .int (nI (m + ((boysA false w b).2 + oneC false b (boysA false w b).1))), .int (nI i), .int (nI (b + 1))], [], sM Ln I' L c s) (dd_RI Ln c s K) := ih
      clear ih
      generalize (boysA false w b).1 = u at *
      generalize (boysA false w b).2 = q0 at *
      refine w_X10_beatOn_12 (by omega) ?_
      rw [c1.boys, e1, nI_leI (by omega) (by omega), nI_1]
      refine ⟨fun q => absurd q (by omega), fun _ => ?_⟩
      refine C_isIn (by omega) c1 (by omega) ?_
      simp only [bI_0]
      refine ⟨fun q => ?_, fun q => ?_⟩
      · have hn := of_decide_eq_false q
        refine C_beatNow (by omega) c1 o1 l1 (by omega) hn hib fun I2 c2 f2 => ?_
        have ih2 := ih' I2 c2 (f1.trans f2)
        have oc : oneC false b u = 0 ∨ oneC false b u = 1 := by
          unfold oneC
          split
          · exact Or.inl rfl
          · split
            · exact Or.inr rfl
            · exact Or.inl rfl
        rcases oc with oc | oc
        · rw [oc] at ih2 ⊢
          exact ⟨fun _ => ih2, fun q2 => absurd rfl q2⟩
        · rw [oc] at ih2 ⊢
          refine ⟨fun q2 => absurd q2 (by decide), fun _ => ?_⟩
          rw [nI_1]
          exact ih2
      · rw [Bool.not_eq_false] at q
        have hn := of_decide_eq_true q
        have e2 : oneB false b u = u := by unfold oneB; rw [if_pos hn]
        have e3 : oneC false b u = 0 := by unfold oneC; rw [if_pos hn]
        rw [e2, e3] at ih'
        exact ih' I1 c1 f1
  exact key I hC (FR.refl I)
theorem C_beatOn {d Ln c s : Nat} {I : Nat → Nat → Int32} {L : Nat → Nat → Int64} {K : Int32 → (Nat → Nat → Int32) → (Nat → Nat → Int64) → Prop} {w : Nat → Nat} {n : Nat} (hd : 35 ≤ d) (hC : RC w I L) (hO : OKW w) (hL : RLw w I) (hi : inbs w) (hn : n ≤ 120) (kk : ∀ I', RC (goA false w n).1 I' L → FR 25 BN [3, 4] I I' → K (nI (goA false w n).2) I' L) : dd_Ev d m_X10_beatOn [.ref 0, .int (nI n)] (sM Ln I L c s) (dd_RI Ln c s K) := by
  refine w_X10_beatOn_0 (by omega) ?_
  have key : ∀ I' a4, RC (goA false w 0).1 I' L → FR 25 BN [3, 4] I I' → dd_Rn d m_X10_beatOn (4, [.ref 0, .int (nI n), .int (nI (goA false w 0).2), .int (nI 0), a4], [], sM Ln I' L c s) (dd_RI Ln c s K) := by
    refine dd_lp (fun i => ∀ I' a4, RC (goA false w i).1 I' L → FR 25 BN [3, 4] I I' → dd_Rn d m_X10_beatOn (4, [.ref 0, .int (nI n), .int (nI (goA false w i).2), .int (nI i), a4], [], sM Ln I' L c s) (dd_RI Ln c s K)) n ?_ ?_
    · intro I1 a4 c1 f1
      refine w_X10_beatOn_4 (by omega) ?_
      refine ⟨fun _ => dd_qi (kk I1 c1 f1), fun q => absurd (nI_le (Nat.le_refl _) (by omega)) q⟩
    · intro i hi' ih I1 a4 c1 f1
      obtain ⟨o1, s1⟩ := goA_ok hO (cm := false) i
      refine w_X10_beatOn_4 (by omega) ?_
      rw [nI_leI (by omega) (by omega)]
      refine ⟨fun q => absurd q (by omega), fun _ => ?_⟩
      refine C_beatB (by omega) c1 o1 ((hL.fr f1 (by decide)).cong s1.L) (goA_in hO hi i) fun I2 a4 c2 f2 => ?_
      exact ih I2 a4 c2 (f1.trans f2)
  exact key I .null hC (FR.refl I)
