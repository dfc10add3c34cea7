/-! The class: beats on and on -/
theorem C_beatB {d Ln c s : Nat} {I : Nat → Nat → Int32} {L : Nat → Nat → Int64} {K : Int32 → (Nat → Nat → Int32) → (Nat → Nat → Int64) → Prop} {w : Nat → Nat} {n i : Nat} {m : Nat} (hd : 34 ≤ d) (hC : RC w I L) (hO : OKW w) (hL : RLw w I) (hi : inbs w) (kk : ∀ I' a4, RC (beatA false w).1 I' L → FR 25 BN [3, 4] I I' → dd_Rn d m_X10_beatOn (4, [.ref 0, .int (nI n), .int (nI (m + (beatA false w).2)), .int (nI (i + 1)), a4], [], sM Ln I' L c s) (dd_RI Ln c s K)) : dd_Rn d m_X10_beatOn (12, [.ref 0, .int (nI n), .int (nI m), .int (nI i), .int (nI 0)], [], sM Ln I L c s) (dd_RI Ln c s K) := by
  have h1 := hO.1.2.1
  have key : ∀ I', RC (boysA false w 0).1 I' L → FR 25 BN [3, 4] I I' → dd_Rn d m_X10_beatOn (12, [.ref 0, .int (nI n), .int (nI (m + (boysA false w 0).2)), .int (nI i), .int (nI 0)], [], sM Ln I' L c s) (dd_RI Ln c s K) := by
    refine dd_lp (fun b => ∀ I', RC (boysA false w b).1 I' L → FR 25 BN [3, 4] I I' → dd_Rn d m_X10_beatOn (12, [.ref 0, .int (nI n), .int (nI (m + (boysA false w b).2)), .int (nI i), .int (nI b)], [], sM Ln I' L c s) (dd_RI Ln c s K)) (w 1) ?_ ?_
    · intro I1 c1 f1
      obtain ⟨o1, s1⟩ := boysA_ok hO (cm := false) (w 1) h1
      have e1 : (boysA false w (w 1)).1 1 = w 1 := s1 1 (by omega)
      refine w_X10_beatOn_12 (by omega) ?_
      rw [c1.boys, e1]
      refine ⟨fun _ => ?_, fun q => absurd (nI_le (Nat.le_refl _) (by omega)) q⟩
      refine C_endBeat (by omega) c1 o1.1.2.2.2.2.2.2.1 o1.1.2.2.2.2.2.2.2.1 fun I2 c2 f2 => ?_
      rw [nI_1]
      exact kk I2 _ c2 (f1.trans (BNs f2 (by decide)))
    · intro b hb ih I1 c1 f1
      obtain ⟨o1, s1⟩ := boysA_ok hO (cm := false) b (by omega)
      have e1 : (boysA false w b).1 1 = w 1 := s1 1 (by omega)
      have hib := boysA_in (cm := false) hO hi b (by omega) b hb
      have l1 : RLw (boysA false w b).1 I1 := (hL.fr f1 (by decide)).cong s1.L
      have ih' : ∀ I', RC (oneB false b (boysA false w b).1) I' L → FR 25 BN [3, 4] I I' → dd_Rn d m_X10_beatOn (12, [.ref 0, .int (nI n), .int (nI (m + ((boysA false w b).2 + oneC false b (boysA false w b).1))), .int (nI i), .int (nI (b + 1))], [], sM Ln I' L c s) (dd_RI Ln c s K) := ih
      clear ih
      generalize (boysA false w b).1 = u at *
      generalize (boysA false w b).2 = q0 at *
      refine w_X10_beatOn_12 (by omega) ?_
      rw [c1.boys, e1, nI_leI (by omega) (by omega)]
      simp only [nI_1]
      refine ⟨fun q => absurd q (by omega), fun _ => ?_⟩
      refine C_isIn (by omega) c1 (by omega) ?_
      simp only [bI_0]
      refine ⟨fun q => ?_, fun q => ?_⟩
      · have hn := of_decide_eq_false q
        refine C_beatNow (by omega) c1 o1 l1 (by omega) hn hib fun I2 c2 f2 => ?_
        have ih2 := ih' I2 c2 (f1.trans f2)
        have oc : oneC false b u = 0 ∨ oneC false b u = 1 := by
          unfold oneC
          split
          · exact Or.inl rfl
          · split
            · exact Or.inr rfl
            · exact Or.inl rfl
        rcases oc with oc | oc
        · rw [oc] at ih2 ⊢
          exact ⟨fun _ => ih2, fun q2 => absurd rfl q2⟩
        · rw [oc] at ih2 ⊢
          exact ⟨fun q2 => absurd q2 (by decide), fun _ => ih2⟩
      · rw [Bool.not_eq_false] at q
        have hn := of_decide_eq_true q
        have e2 : oneB false b u = u := by unfold oneB; rw [if_pos hn]
        have e3 : oneC false b u = 0 := by unfold oneC; rw [if_pos hn]
        rw [e2, e3] at ih'
        exact ih' I1 c1 f1
  exact key I hC (FR.refl I)
theorem C_beatOn {d Ln c s : Nat} {I : Nat → Nat → Int32} {L : Nat → Nat → Int64} {K : Int32 → (Nat → Nat → Int32) → (Nat → Nat → Int64) → Prop} {w : Nat → Nat} {n : Nat} (hd : 35 ≤ d) (hC : RC w I L) (hO : OKW w) (hL : RLw w I) (hi : inbs w) (hn : n ≤ 120) (kk : ∀ I', RC (goA false w n).1 I' L → FR 25 BN [3, 4] I I' → K (nI (goA false w n).2) I' L) : dd_Ev d m_X10_beatOn [.ref 0, .int (nI n)] (sM Ln I L c s) (dd_RI Ln c s K) := by
  refine w_X10_beatOn_0 (by omega) ?_
  have key : ∀ I' a4, RC (goA false w 0).1 I' L → FR 25 BN [3, 4] I I' → dd_Rn d m_X10_beatOn (4, [.ref 0, .int (nI n), .int (nI (goA false w 0).2), .int (nI 0), a4], [], sM Ln I' L c s) (dd_RI Ln c s K) := by
    refine dd_lp (fun i => ∀ I' a4, RC (goA false w i).1 I' L → FR 25 BN [3, 4] I I' → dd_Rn d m_X10_beatOn (4, [.ref 0, .int (nI n), .int (nI (goA false w i).2), .int (nI i), a4], [], sM Ln I' L c s) (dd_RI Ln c s K)) n ?_ ?_
    · intro I1 a4 c1 f1
      refine w_X10_beatOn_4 (by omega) ?_
      refine ⟨fun _ => dd_qi (kk I1 c1 f1), fun q => absurd (nI_le (Nat.le_refl _) (by omega)) q⟩
    · intro i hi' ih I1 a4 c1 f1
      obtain ⟨o1, s1⟩ := goA_ok hO (cm := false) i
      refine w_X10_beatOn_4 (by omega) ?_
      rw [nI_leI (by omega) (by omega)]
      refine ⟨fun q => absurd q (by omega), fun _ => ?_⟩
      refine C_beatB (by omega) c1 o1 ((hL.fr f1 (by decide)).cong s1.L) (goA_in hO hi i) fun I2 a4 c2 f2 => ?_
      exact ih I2 a4 c2 (f1.trans f2)
  exact key I .null hC (FR.refl I)
