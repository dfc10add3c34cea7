/-! ears -/
def heP (w tp : Nat → Nat) : Nat → Bool := fun j => opn w (tp (2 * j)) && (!decide (tp (2 * j) = w 4) && decide (tp (2 * j + 1) ≤ 1))
def heB (w tp : Nat → Nat) (tl : Nat) : Bool := (decide (tl % 2 = 0) && decide (tl ≤ 40)) && allN (heP w tp) (tl / 2)
theorem C_tellsEars {d Ln c s : Nat} {I : Nat → Nat → Int32} {L : Nat → Nat → Int64} {K : Int32 → (Nat → Nat → Int32) → (Nat → Nat → Int64) → Prop} {w tp : Nat → Nat} {tl : Nat} (hd : 29 ≤ d) (hC : RC w I L) (hO : OKW w) (hl : tl ≤ 400) (h256 : ∀ j, tp j < 256) (ht : ∀ j, j < 400 → I 129 j = nI (tp j)) (k : K (bI (heB w tp tl)) I L) : dd_Ev d m_X10_tellsEars [.ref 0, .int (nI tl)] (sM Ln I L c s) (dd_RI Ln c s K) := by
  have w4 := hO.1.2.2.2.1
  refine w_X10_tellsEars_0 (by omega) ?_
  have e2 : nI tl - nI tl / 2 * 2 = nI (tl % 2) := by rw [li_2, pk_rem (by omega) (by omega) (by omega)]
  rw [li_40, nI_ltI (by omega) (by omega), e2, li_0, nI_eq (by omega) (by omega)]
  refine ⟨fun z => ?_, fun z => ⟨fun z2 => ?_, fun z2 => ?_⟩⟩
  · have e : heB w tp tl = false := by unfold heB; rw [decide_eq_false (show ¬ tl ≤ 40 by omega), Bool.and_false, Bool.false_and]
    rw [e] at k
    exact dd_qi k
  · have eB : heB w tp tl = allN (heP w tp) (tl / 2) := by unfold heB; rw [decide_eq_true z2, decide_eq_true (show tl ≤ 40 by omega)]; rfl
    rw [eB] at k
    have key : ∀ a3, allN (heP w tp) 0 = true → dd_Rn d m_X10_tellsEars (16, [.ref 0, .int (nI tl), .int (nI (2 * 0)), a3], [], sM Ln I L c s) (dd_RI Ln c s K) := by
      refine dd_lp (fun j => ∀ a3, allN (heP w tp) j = true → dd_Rn d m_X10_tellsEars (16, [.ref 0, .int (nI tl), .int (nI (2 * j)), a3], [], sM Ln I L c s) (dd_RI Ln c s K)) (tl / 2) ?_ ?_
      · intro a3 q
        refine w_X10_tellsEars_16 (by omega) ?_
        rw [nI_1, nI_leI (by omega) (by omega)]
        rw [q] at k
        exact ⟨fun _ => dd_qi k, fun z => absurd (by omega) z⟩
      · intro j hj ih a3 q
        have t1 : tn (nI (2 * j)) = 2 * j := nI_clamp (by omega)
        have t2 : tn (nI (2 * j + 1)) = 2 * j + 1 := nI_clamp (by omega)
        have b1 := h256 (2 * j)
        have b2 := h256 (2 * j + 1)
        have e22 : nI (2 * j) + 2 = nI (2 * (j + 1)) := by rw [li_2, nI_add]; congr 1
        have bad : heP w tp j = false → dd_RI Ln c s K (none, .int 0, sM Ln I L c s) := fun p => by
          rw [allN_f hj p] at k
          exact dd_qi k
        refine w_X10_tellsEars_16 (by omega) ?_
        rw [nI_1, nI_leI (by omega) (by omega), t1, t2, ht _ (by omega)]
        simp only [e22]
        refine ⟨fun z => absurd z (by omega), fun _ => ⟨⟨nI_pos' (by omega), by omega⟩, ?_⟩⟩
        refine C_isOpen (w := w) (by omega) hC (by omega) ?_
        rw [bI_z, hC.fire, nI_eq (by omega) (by omega), li_1, ht _ (by omega), nI_leI (by omega) (by omega)]
        refine ⟨fun z3 => bad (by unfold heP; rw [z3]; rfl), fun z3 => ⟨fun z4 => bad (by unfold heP; rw [decide_eq_true z4]; exact Bool.and_false _), fun z4 => ⟨⟨nI_pos' (by omega), by omega⟩, fun z5 => ih _ ?_, fun z5 => bad (by unfold heP; rw [decide_eq_false z5, Bool.and_false, Bool.and_false])⟩⟩⟩
        rw [allN, q]
        unfold heP
        rw [decide_eq_false z4, decide_eq_true z5]
        cases hz : opn w (tp (2 * j)) with
        | true => rfl
        | false => exact absurd hz z3
    exact key _ rfl
  · have e : heB w tp tl = false := by unfold heB; rw [decide_eq_false z2]; rfl
    rw [e] at k
    exact dd_qi k
def eaH (w : Nat → Nat) (b e x : Nat) : Bool := hrs w (vF b (w (187 + 5 * b + 1)) e (w (187 + 5 * b + 4)) (w 7) x (w 4)) (w 5) (w (75 + x)) (prow w (w (187 + 5 * b + 1)) (w 7))
def eaP (w tp : Nat → Nat) (b e : Nat) : Nat → Bool := fun j => eaH w b e (tp (2 * j)) == decide (tp (2 * j + 1) = 1)
theorem heP_x {w tp : Nat → Nat} {j : Nat} (h : heP w tp j = true) : tp (2 * j) < 64 ∧ tp (2 * j + 1) ≤ 1 ∧ ¬ w (11 + tp (2 * j)) = 1 ∧ ¬ tp (2 * j) = w 4 := by
  unfold heP at h
  rw [Bool.and_eq_true, Bool.and_eq_true, Bool.not_eq_true', decide_eq_false_iff_not, decide_eq_true_eq] at h
  obtain ⟨h1, h2, h3⟩ := h
  exact ⟨(opn_t.mp h1).1, h3, (opn_t.mp h1).2, h2⟩
theorem C_earFits {d Ln c s : Nat} {I : Nat → Nat → Int32} {L : Nat → Nat → Int64} {K : Int32 → (Nat → Nat → Int32) → (Nat → Nat → Int64) → Prop} {w tp : Nat → Nat} {b e tl : Nat} (hd : 33 ≤ d) (hC : RC w I L) (hO : OKW w) (hL : RLw w I) (hb : b < 6) (he : e ≤ 15) (hl : tl ≤ 40) (ev : tl % 2 = 0) (hh : allN (heP w tp) (tl / 2) = true) (ht : ∀ j, j < 400 → I 129 j = nI (tp j)) (kk : ∀ I', FV 133 I I' → K (bI (allN (eaP w tp b e) (tl / 2))) I' L) : dd_Ev d m_X10_earFits [.ref 0, .int (nI b), .int (nI e), .int (nI tl)] (sM Ln I L c s) (dd_RI Ln c s K) := by
  have hk : (133 : Nat) = 133 ∨ (133 : Nat) = 136 := Or.inl rfl
  have w4 := hO.1.2.2.2.1
  have w5 := hO.1.2.2.2.2.1
  have w7 := hO.1.2.2.2.2.2.2.1
  obtain ⟨_, b1, b2, b3, b4, b5⟩ := hO.2.2.2.1 b (by omega)
  refine w_X10_earFits_0 (by omega) ?_
  refine C_follow (by omega) hk hC hO hb fun I1 v1 f1 => ?_
  have g1 : FV 133 I (dd_u I1 134 (upd (I1 134) 2 (nI e))) := f1.u (by decide) (by decide)
  have q1 : RVq 133 b (w (187 + 5 * b + 1)) e (w (187 + 5 * b + 4)) (w 7) (w 5) (prow w (w (187 + 5 * b + 1))) (dd_u I1 134 (upd (I1 134) 2 (nI e))) := by
    obtain ⟨h0, h1, h2, h3, h4, h5, h6⟩ := v1.1
    refine ⟨?_, ?_, ?_, ?_, ?_, fun j hj => ?_, ?_⟩
    · show dd_u I1 134 (upd (I1 134) 2 (nI e)) 134 0 = _
      rw [dd_us, pk_un (by decide)]; exact h0
    · show dd_u I1 134 (upd (I1 134) 2 (nI e)) 134 1 = _
      rw [dd_us, pk_un (by decide)]; exact h1
    · show dd_u I1 134 (upd (I1 134) 2 (nI e)) 134 2 = _
      rw [dd_us, pk_us]
    · show dd_u I1 134 (upd (I1 134) 2 (nI e)) 134 6 = _
      rw [dd_us, pk_un (by decide)]; exact h3
    · show dd_u I1 134 (upd (I1 134) 2 (nI e)) 134 7 = _
      rw [dd_us, pk_un (by decide)]; exact h4
    · rw [dd_un (by decide)]; exact h5 j hj
    · rw [dd_un (by decide)]; exact h6
  have key : ∀ I', RVq 133 b (w (187 + 5 * b + 1)) e (w (187 + 5 * b + 4)) (w 7) (w 5) (prow w (w (187 + 5 * b + 1))) I' → FV 133 I I' → allN (eaP w tp b e) 0 = true → dd_Rn d m_X10_earFits (21, [.ref 0, .int (nI b), .int (nI e), .int (nI tl), .int (nI (2 * 0))], [], sM Ln I' L c s) (dd_RI Ln c s K) := by
    refine dd_lp (fun j => ∀ I', RVq 133 b (w (187 + 5 * b + 1)) e (w (187 + 5 * b + 4)) (w 7) (w 5) (prow w (w (187 + 5 * b + 1))) I' → FV 133 I I' → allN (eaP w tp b e) j = true → dd_Rn d m_X10_earFits (21, [.ref 0, .int (nI b), .int (nI e), .int (nI tl), .int (nI (2 * j))], [], sM Ln I' L c s) (dd_RI Ln c s K)) (tl / 2) ?_ ?_
    · intro I' v' f' q
      refine w_X10_earFits_21 (by omega) ?_
      rw [nI_1, nI_leI (by omega) (by omega)]
      rw [q] at kk
      exact ⟨fun _ => dd_qi (kk I' f'), fun z => absurd (by omega) z⟩
    · intro j hj ih I' v' f' q
      obtain ⟨x64, x1, _, _⟩ := heP_x ((allN_iff _ _).mp hh j hj)
      have t1 : tn (nI (2 * j)) = 2 * j := nI_clamp (by omega)
      have t2 : tn (nI (2 * j + 1)) = 2 * j + 1 := nI_clamp (by omega)
      have e22 : nI (2 * j) + 2 = nI (2 * (j + 1)) := by rw [li_2, nI_add]; congr 1
      have e29 : ∀ I2, FV 133 I I2 → ∀ j, j < 400 → I2 129 j = nI (tp j) := fun I2 f2 j hj => by rw [f2.1 129 (by decide) (by decide)]; exact ht j hj
      refine w_X10_earFits_21 (by omega) ?_
      rw [nI_1, nI_leI (by omega) (by omega), t1, t2, e29 I' f' _ (by omega), e22]
      refine ⟨fun z => absurd z (by omega), fun _ => ⟨⟨nI_pos' (by omega), by omega⟩, ?_⟩⟩
      refine C_standAt (w := w) (by omega) hk (hC.fr f' (kA hk)) w4 v' x64 fun I2 v2 f2 => ?_
      have f12 := f'.trans f2
      refine C_hearsNow (w := w) (by omega) hk (hC.fr f12 (kA hk)) hO (hL.fr f12 (kA26 hk)) v2 (by omega) b2 (by omega) b5 w7 w5 x64 (fun j hj => hO.2.2.1 _ b2 j hj) fun I3 f3 => ?_
      have f13 : FV 133 I I3 := f12.trans (f3.mono (fun _ q => absurd q List.not_mem_nil) (fun _ q => q))
      have v3 := v2.1.fr (I' := I3) (fun j h1 h2 => f3.1 j List.not_mem_nil (by omega))
      rw [e29 I3 f13 _ (by omega), nI1i x1]
      have yes : eaP w tp b e j = true → dd_Rn d m_X10_earFits (21, [.ref 0, .int (nI b), .int (nI e), .int (nI tl), .int (nI (2 * (j + 1)))], [], sM Ln I3 L c s) (dd_RI Ln c s K) := fun p => ih I3 v3 f13 (by rw [allN, q, p]; rfl)
      have no : eaP w tp b e j = false → dd_RI Ln c s K (none, .int 0, sM Ln I3 L c s) := fun p => by
        rw [allN_f hj p] at kk
        exact dd_qi (kk I3 f13)
      have bi1 : ∀ t : Bool, bI t = 1 ↔ t = true := by decide
      show ((0 ≤ nI (2 * j + 1) ∧ 2 * j + 1 < 400) ∧ (tp (2 * j + 1) = 1 → ((bI (eaH w b e (tp (2 * j))) = 1 → _) ∧ (¬ bI (eaH w b e (tp (2 * j))) = 1 → _))) ∧ (¬ tp (2 * j + 1) = 1 → ((bI (eaH w b e (tp (2 * j))) = 0 → _) ∧ (¬ bI (eaH w b e (tp (2 * j))) = 0 → _))))
      rw [bi1, bI_z]
      refine ⟨⟨nI_pos' (by omega), by omega⟩, fun z => ⟨fun z2 => yes (by unfold eaP; rw [z2, decide_eq_true z]; rfl), fun z2 => no ?_⟩, fun z => ⟨fun z2 => yes (by unfold eaP; rw [z2, decide_eq_false z]; rfl), fun z2 => no ?_⟩⟩
      · unfold eaP
        rw [decide_eq_true z]
        cases hz : eaH w b e (tp (2 * j)) with
        | true => exact absurd hz z2
        | false => rfl
      · unfold eaP
        rw [decide_eq_false z]
        cases hz : eaH w b e (tp (2 * j)) with
        | true => rfl
        | false => exact absurd hz z2
  exact key _ q1 g1 rfl
theorem M_isHeardTape {d Ln c s : Nat} {I : Nat → Nat → Int32} {L : Nat → Nat → Int64} {K : Int32 → (Nat → Nat → Int32) → (Nat → Nat → Int64) → Prop} {w tp : Nat → Nat} {tl : Nat} (hd : 28 ≤ d) (hR : RM w I) (hO : OKW w) (hl : tl ≤ 400) (h256 : ∀ j, tp j < 256) (h11 : I 148 11 = nI tl) (ht : ∀ j, j < 400 → I 154 j = byt (tp j)) (k : K (bI (heB w tp tl)) I L) : dd_Ev d m_X11_isHeardTape [.ref 148] (sM Ln I L c s) (dd_RI Ln c s K) := by
  have w4 := hO.1.2.2.2.1
  refine w_X11_isHeardTape_0 (by omega) ?_
  have e2 : nI tl - nI tl / 2 * 2 = nI (tl % 2) := by rw [li_2, pk_rem (by omega) (by omega) (by omega)]
  have bz : ∀ t : Bool, bI t = 0 ∨ bI t = 1 := by decide
  have run : ∀ f0 : Bool, f0 = (decide (tl % 2 = 0) && decide (tl ≤ 40)) → dd_Rn d m_X11_isHeardTape (26, [.ref 148, .int (bI f0), .int (nI (2 * 0))], [], sM Ln I L c s) (dd_RI Ln c s K) := by
    intro f0 hf0
    have k : K (bI (f0 && allN (heP w tp) (tl / 2))) I L := by rw [hf0]; exact k
    cases f0 with
    | false =>
      refine w_X11_isHeardTape_26 (by omega) ?_
      exact ⟨fun _ => ⟨bz false, dd_qi k⟩, fun _ => ⟨fun _ => ⟨bz false, dd_qi k⟩, fun z => absurd rfl z⟩⟩
    | true =>
      have ev : tl % 2 = 0 := by
        have := hf0.symm
        rw [Bool.and_eq_true] at this
        exact of_decide_eq_true this.1
      rw [Bool.true_and] at k
      have key : dd_Rn d m_X11_isHeardTape (26, [.ref 148, .int (bI (allN (heP w tp) 0)), .int (nI (2 * 0))], [], sM Ln I L c s) (dd_RI Ln c s K) := by
        refine dd_lp (fun j => dd_Rn d m_X11_isHeardTape (26, [.ref 148, .int (bI (allN (heP w tp) j)), .int (nI (2 * j))], [], sM Ln I L c s) (dd_RI Ln c s K)) (tl / 2) ?_ ?_
        · refine w_X11_isHeardTape_26 (by omega) ?_
          rw [h11, nI_leI (by omega) (by omega)]
          exact ⟨fun _ => ⟨bz _, dd_qi k⟩, fun z => absurd (by omega) z⟩
        · intro j hj ih
          have t1 : tn (nI (2 * j)) = 2 * j := nI_clamp (by omega)
          have t2 : tn (nI (2 * j + 1)) = 2 * j + 1 := nI_clamp (by omega)
          have e22 : nI (2 * j) + 2 = nI (2 * (j + 1)) := by rw [li_2, nI_add]; congr 1
          refine w_X11_isHeardTape_26 (by omega) ?_
          rw [h11, nI_leI (by omega) (by omega), nI_1, t1, t2, ht _ (by omega), ht _ (by omega), e22, bI_z]
          have ck1 : (0 ≤ nI (2 * j) ∧ 2 * j < 400) := ⟨nI_pos' (by omega), by omega⟩
          have ck2 : (0 ≤ nI (2 * j + 1) ∧ 2 * j + 1 < 400) := ⟨nI_pos' (by omega), by omega⟩
          rw [allN] at ih
          refine ⟨fun z => absurd z (by omega), fun _ => ⟨fun z => ⟨Or.inl z, ?_⟩, fun z => ⟨ck1, ?_⟩⟩⟩
          · have e : allN (heP w tp) (tl / 2) = false := by
              cases hq : allN (heP w tp) (tl / 2) with
              | false => rfl
              | true =>
                have : allN (heP w tp) j = true := (allN_iff _ _).mpr (fun i hi => (allN_iff _ _).mp hq i (by omega))
                rw [z] at this
                cases this
            rw [e] at k
            rw [z]
            exact dd_qi k
          · have zt : allN (heP w tp) j = true := by
              cases hz : allN (heP w tp) j with
              | true => rfl
              | false => exact absurd hz z
            rw [zt, Bool.true_and] at ih
            have no : heP w tp j = false → dd_Rn d m_X11_isHeardTape (26, [.ref 148, .int 0, .int (nI (2 * (j + 1)))], [], sM Ln I L c s) (dd_RI Ln c s K) := fun q => by rw [q] at ih; exact ih
            have yes : heP w tp j = true → dd_Rn d m_X11_isHeardTape (26, [.ref 148, .int 1, .int (nI (2 * (j + 1)))], [], sM Ln I L c s) (dd_RI Ln c s K) := fun q => by rw [q] at ih; exact ih
            have n1 : ¬ tp (2 * j) < 64 → heP w tp j = false := fun q => by unfold heP opn; rw [decide_eq_false q]; rfl
            have n2 : ¬ tp (2 * j + 1) < 2 → heP w tp j = false := fun q => by unfold heP; rw [decide_eq_false (show ¬ tp (2 * j + 1) ≤ 1 by omega), Bool.and_false, Bool.and_false]
            rcases bytQ h256 (2 * j) (m := 63) (by omega) with ⟨a, b⟩ | ⟨a, b, b2⟩ | ⟨a, b, b2, eb⟩
            · exact ⟨fun _ => no (n1 b), fun y => absurd a y⟩
            · exact ⟨fun y => absurd y a, fun _ => ⟨fun _ => no (n1 b2), fun y => absurd b y⟩⟩
            · refine ⟨fun y => absurd y a, fun _ => ⟨fun y => absurd y b, fun _ => ⟨ck1, ?_⟩⟩⟩
              have tx := (hO.2.1 (tp (2 * j)) b2).1
              have e11 : (11 : Int32) + nI (tp (2 * j)) = nI (11 + tp (2 * j)) := by rw [li_11, nI_add]
              have t11 : tn (nI (11 + tp (2 * j))) = 11 + tp (2 * j) := nI_clamp (by omega)
              rw [eb, e11, t11, hR.g (show 11 + tp (2 * j) < 1371 by omega), hR.g (show 4 < 1371 by omega), nI1i tx, nI_eq (by omega) (by omega)]
              refine ⟨⟨nI_pos' (by omega), by omega⟩, fun y => no (by unfold heP; rw [(opn_f b2).mpr y]; rfl), fun y => ⟨ck1, fun y2 => no (by unfold heP; rw [decide_eq_true y2]; exact Bool.and_false _), fun y2 => ⟨ck2, ?_⟩⟩⟩
              rcases bytQ h256 (2 * j + 1) (m := 1) (by omega) with ⟨a', c1⟩ | ⟨a', c1, c2⟩ | ⟨a', c1, c2, _⟩
              · exact ⟨fun _ => no (n2 c1), fun y => absurd a' y⟩
              · exact ⟨fun y => absurd y a', fun _ => ⟨fun _ => no (n2 c2), fun y => absurd c1 y⟩⟩
              · exact ⟨fun y => absurd y a', fun _ => ⟨fun y => absurd y c1, fun _ => yes (by unfold heP; rw [opn_t.mpr ⟨b2, y⟩, decide_eq_false y2, decide_eq_true (show tp (2 * j + 1) ≤ 1 by omega)]; rfl)⟩⟩
      exact key
  rw [h11, e2, li_0, nI_eq (by omega) (by omega), li_40, nI_ltI (by omega) (by omega)]
  refine ⟨fun z => ⟨fun z2 => run false ?_, fun z2 => run true ?_⟩, fun z => run false ?_⟩
  · rw [decide_eq_false (show ¬ tl ≤ 40 by omega), Bool.and_false]
  · rw [decide_eq_true z, decide_eq_true (show tl ≤ 40 by omega)]; rfl
  · rw [decide_eq_false z]; rfl
def EU (w : Nat → Nat) (b : Nat) (u : Nat → Nat) : Prop := OKW u ∧ stat w u ∧ u 7 = w 7 ∧ u (187 + 5 * b + 1) = w (187 + 5 * b + 1) ∧ u (187 + 5 * b + 4) = w (187 + 5 * b + 4)
theorem M_wouldHear {d Ln c s : Nat} {I : Nat → Nat → Int32} {L : Nat → Nat → Int64} {K : Int32 → (Nat → Nat → Int32) → (Nat → Nat → Int64) → Prop} {w u : Nat → Nat} {b x e : Nat} (hd : 36 ≤ d) (hR : RM u I) (hO : OKW w) (hU : EU w b u) (hb : b < 6) (hx : x < 64) (he : e ≤ 15) (kk : ∀ I' u', EU w b u' → RM u' I' → FW I I' → K (bI (eaH w b e x)) I' L) : dd_Ev d m_X11_wouldHear [.ref 148, .int (nI b), .int (nI x), .int (nI e)] (sM Ln I L c s) (dd_RI Ln c s K) := by
  obtain ⟨o0, st, h7, p1, p4⟩ := hU
  have e0 : (187 : Int32) + (5 : Int32) * nI b + 0 = nI (187 + 5 * b) := by rw [li_187, li_5, li_0, pk_mul, nI_add, nI_add, Nat.add_zero]
  have e2 : (187 : Int32) + (5 : Int32) * nI b + 2 = nI (187 + 5 * b + 2) := by rw [li_187, li_5, li_2, pk_mul, nI_add, nI_add]
  have t0 : tn (nI (187 + 5 * b)) = 187 + 5 * b := nI_clamp (by omega)
  have t2 : tn (nI (187 + 5 * b + 2)) = 187 + 5 * b + 2 := nI_clamp (by omega)
  have o1 : OKW (upw u (187 + 5 * b) x) := okW_b (k := 0) o0 (by omega) (by omega) (by omega)
  have o2 : OKW (upw (upw u (187 + 5 * b) x) (187 + 5 * b + 2) e) := okW_b (k := 2) o1 (by omega) (by omega) (by omega)
  have st2 : stat w (upw (upw u (187 + 5 * b) x) (187 + 5 * b + 2) e) := st.trans ((stat_upw (by omega)).trans (stat_upw (by omega)))
  have U2 : EU w b (upw (upw u (187 + 5 * b) x) (187 + 5 * b + 2) e) := ⟨o2, st2, by rw [upw_ne (by omega), upw_ne (by omega)]; exact h7, by rw [upw_ne (by omega), upw_ne (by omega)]; exact p1, by rw [upw_ne (by omega), upw_ne (by omega)]; exact p4⟩
  have b2 := (hO.2.2.2.1 b (by omega)).2.2.1
  have w7 := hO.1.2.2.2.2.2.2.1
  have ev : hrB (upw (upw u (187 + 5 * b) x) (187 + 5 * b + 2) e) b (ntB (upw (upw u (187 + 5 * b) x) (187 + 5 * b + 2) e) b) = eaH w b e x := by
    have c0 : upw (upw u (187 + 5 * b) x) (187 + 5 * b + 2) e (187 + 5 * b) = x := by rw [upw_ne (by omega), upw_eq]
    have c2 : upw (upw u (187 + 5 * b) x) (187 + 5 * b + 2) e (187 + 5 * b + 2) = e := upw_eq
    obtain ⟨_, s2, s7, s1, s4⟩ := U2
    unfold hrB eaH ntB prow
    rw [hrs_cong s2.L, ← vF_fct, c0, c2, s7, s1, s4, s2 4 (by omega), s2 5 (by omega), s2 (75 + x) (by omega), s2 (139 + 8 * w (187 + 5 * b + 1) + w 7) (by omega)]
  refine w_X11_wouldHear_0 (by omega) ?_
  rw [e0, e2, t0, t2, dd_u_u]
  refine ⟨⟨nI_pos' (by omega), by omega⟩, ⟨nI_pos' (by omega), by omega⟩, ?_⟩
  refine M_hears (w := upw (upw u (187 + 5 * b) x) (187 + 5 * b + 2) e) (by omega) (RM.set (nu (nu hR _ x) _ e)) o2 (by omega) fun I1 r1 f1 => ?_
  rw [ev]
  refine ⟨?_, dd_qi (kk I1 _ U2 r1 (FR.trans ((FR.refl I).u (by decide) (by decide)) f1))⟩
  cases eaH w b e x
  · exact Or.inl rfl
  · exact Or.inr rfl
theorem A_ears {d Ln c s : Nat} {I0 I : Nat → Nat → Int32} {L : Nat → Nat → Int64} {w : Nat → Nat} {im : Option (Nat → Nat)} {na od : Nat} {A : Nat → Nat → Nat} {tp : Nat → Nat} {tl : Nat} {fa : Option Nat} (hd : 60 ≤ d) (h : INV I0 w im na od A tp tl fa I L) (a : Int32) : PW d m_L_ears [.ref 0, .int a, .ref 163] m_X11_ears [.ref 148, .int a] I0 Ln c s I L := by
  have hO := h.1.1
  have hC := h.2.2.1
  have w1 := hO.1.2.1
  have hk : (133 : Nat) = 133 ∨ (133 : Nat) = 136 := Or.inl rfl
  obtain ⟨t1, t2, t3, t4, t5⟩ := h.2.2.2.2.2.2.1
  have cT : RC w (TC I) L := hC.of (fun j _ _ => TC_o (by omega)) rfl
  have lT : RLw w (TC I) := h.2.2.2.1.of (by rw [TC_o (by omega)]) (by rw [TC_o (by omega)]) (TC_o (by omega))
  have tT : ∀ j, j < 400 → TC I 129 j = nI (tp j) := fun j hj => by rw [TC_o (by omega)]; exact (t5 j hj).1
  by_cases hv : vld a (w 1)
  · obtain ⟨b, hb, rfl⟩ := vld_i (by omega) hv
    cases hs : heB w tp tl with
    | true =>
      have hs' := hs
      unfold heB at hs'
      rw [Bool.and_eq_true, Bool.and_eq_true, decide_eq_true_eq, decide_eq_true_eq] at hs'
      obtain ⟨⟨ev, l40⟩, hh⟩ := hs'
      refine PW.tp h 0 (msk (fun e => allN (eaP w tp b e) (tl / 2)) 16) ?_ ?_
      · intro K g
        refine w_L_ears_0 (by omega) ?_
        refine w_X10_ears_0 (by omega) (rqC hC.boys (fun z => absurd hv z) fun _ => ?_)
        rw [t4]
        show dd_Ev (d - 1 - 1) m_X10_tellsEars [.ref 0, .int (nI tl)] (sM Ln (TC I) L c s) _
        refine C_tellsEars (w := w) (tp := tp) (tl := tl) (by omega) cT hO t1 t2 tT ?_
        rw [hs]
        refine ⟨fun z => absurd z (by decide), fun _ => ?_⟩
        have key : ∀ I', FV 133 (TC I) I' → dd_Rn (d - 1) m_X10_ears (34, [.ref 0, .int (nI b), .int (nI tl), .int (msk (fun e => allN (eaP w tp b e) (tl / 2)) 0), .int (nI 0)], [], sM Ln I' L c s) (dd_TI Ln c s (fun x1 I1 L1 => dd_RJ Ln c s K (none, .int 0, sM Ln I1 (dd_u L1 163 (vp_updL (L1 163) 0 x1.toInt64)) c s)) (fun E1 I1 L1 => (E1 = 2 ∧ dd_RJ Ln c s K (none, .int 1, sM Ln I1 L1 (c + 1) (s + 6))) ∨ (E1 = 0 ∧ dd_RJ Ln c s K (none, .int 2, sM Ln I1 L1 (c + 1) (s + 6))))) := by
          refine dd_lp (fun i => ∀ I', FV 133 (TC I) I' → dd_Rn (d - 1) m_X10_ears (34, [.ref 0, .int (nI b), .int (nI tl), .int (msk (fun e => allN (eaP w tp b e) (tl / 2)) i), .int (nI i)], [], sM Ln I' L c s) (dd_TI Ln c s (fun x1 I1 L1 => dd_RJ Ln c s K (none, .int 0, sM Ln I1 (dd_u L1 163 (vp_updL (L1 163) 0 x1.toInt64)) c s)) (fun E1 I1 L1 => (E1 = 2 ∧ dd_RJ Ln c s K (none, .int 1, sM Ln I1 L1 (c + 1) (s + 6))) ∨ (E1 = 0 ∧ dd_RJ Ln c s K (none, .int 2, sM Ln I1 L1 (c + 1) (s + 6)))))) 16 ?_ ?_
          · intro I' f'
            refine w_X10_ears_34 (by omega) ?_
            rw [li_15, nI_ltI (by omega) (by omega)]
            refine ⟨fun _ => dd_qT (dd_qJ (g _ _ c s (cs1r c s) ?_ (fun _ => outL))), fun z => absurd (by omega) z⟩
            exact FC.trans (FC.v hk f') FC.out
          · intro i hi ih I' f'
            have es : msk (fun e => allN (eaP w tp b e) (tl / 2)) (i + 1) = if allN (eaP w tp b i) (tl / 2) = true then msk (fun e => allN (eaP w tp b e) (tl / 2)) i ||| ((1 : Int32) <<< (nI i &&& 31)) else msk (fun e => allN (eaP w tp b e) (tl / 2)) i := rfl
            rw [es] at ih
            refine w_X10_ears_34 (by omega) ?_
            rw [li_15, nI_ltI (by omega) (by omega)]
            simp only [nI_1]
            refine ⟨fun z => absurd z (by omega), fun _ => ?_⟩
            refine C_earFits (w := w) (tp := tp) (by omega) (cT.fr f' (kA hk)) hO (lT.fr f' (kA26 hk)) (by omega) (by omega) l40 ev hh (fun j hj => by rw [f'.1 129 (by decide) (by decide)]; exact tT j hj) fun I2 f2 => ?_
            rw [bI_z]
            refine ⟨fun z => ?_, fun z => ?_⟩
            · rw [if_neg (by rw [z]; decide)] at ih
              exact ih I2 (f'.trans f2)
            · rw [if_pos (by cases hz : allN (eaP w tp b i) (tl / 2) with
                | true => rfl
                | false => exact absurd hz z)] at ih
              exact ih I2 (f'.trans f2)
        exact key (TC I) (FR.refl _)
      · intro I1 L1 c1 s1 hR t9 t54 K g
        refine w_X11_ears_0 (by omega) ?_
        rw [TJ_e]
        refine rqM (hR.g (by omega)) (by omega) (fun z => absurd hv z) fun _ => ?_
        have rJ : RM w (TJ I1) := hR.of (TJ_o (by decide))
        have k0 : TJ I1 148 0 = 0 := TJ_0
        have k11 : TJ I1 148 11 = nI tl := by rw [TJ_11]; exact t9
        have k54 : ∀ j, j < 400 → TJ I1 154 j = byt (tp j) := fun j hj => by rw [TJ_o (by decide)]; exact t54 j hj
        generalize TJ I1 = J at *
        refine M_isHeardTape (w := w) (tp := tp) (tl := tl) (by omega) rJ hO t1 t2 k11 k54 ?_
        rw [hs]
        refine ⟨fun z => absurd z (by decide), fun _ => ?_⟩
        refine M_keepsAll (w := w) (by omega) rJ fun f0 hf0 => ?_
        have key : ∀ I' u a4 a5, EU w b u → RM u I' → FB J I' → (∀ j, j < 522 → I' 152 j = nI (w j)) → dd_Rn d m_X11_ears (47, [.ref 148, .int (nI b), .int (msk (fun e => allN (eaP w tp b e) (tl / 2)) 0), .int (nI 0), a4, a5], [], sM Ln I' L1 c1 s1) (dd_RI Ln c1 s1 K) := by
          refine dd_lp (fun i => ∀ I' u a4 a5, EU w b u → RM u I' → FB J I' → (∀ j, j < 522 → I' 152 j = nI (w j)) → dd_Rn d m_X11_ears (47, [.ref 148, .int (nI b), .int (msk (fun e => allN (eaP w tp b e) (tl / 2)) i), .int (nI i), a4, a5], [], sM Ln I' L1 c1 s1) (dd_RI Ln c1 s1 K)) 16 ?_ ?_
          · intro I' u a4 a5 U R F k
            refine w_X11_ears_47 (by omega) ?_
            rw [li_16, nI_leI (by omega) (by omega)]
            refine ⟨fun _ => ?_, fun z => absurd (Nat.le_refl _) z⟩
            refine M_bringsBack (w := u) (w0 := w) (by omega) R k (fun j hj => U.2.1 j (by omega)) fun f4 r4 => ?_
            have F4 : FB J (dd_u I' 149 f4) := F.u (by decide) (by decide)
            exact mqJ r4 (FM.b F4) (by rw [F4.2 0 (by decide)]; exact k0) rfl g
          · intro i hi ih I' u a4 a5 U R F k
            have es : msk (fun e => allN (eaP w tp b e) (tl / 2)) (i + 1) = if allN (eaP w tp b i) (tl / 2) = true then msk (fun e => allN (eaP w tp b e) (tl / 2)) i ||| ((1 : Int32) <<< (nI i &&& 31)) else msk (fun e => allN (eaP w tp b e) (tl / 2)) i := rfl
            rw [es] at ih
            refine w_X11_ears_47 (by omega) ?_
            rw [li_16, nI_leI (by omega) (by omega)]
            refine ⟨fun z => absurd z (by omega), fun _ => ?_⟩
            have inner : ∀ I' u, EU w b u → RM u I' → FB J I' → (∀ j, j < 522 → I' 152 j = nI (w j)) → dd_Rn d m_X11_ears (59, [.ref 148, .int (nI b), .int (msk (fun e => allN (eaP w tp b e) (tl / 2)) i), .int (nI i), .int (bI (allN (eaP w tp b i) 0)), .int (nI (2 * 0))], [], sM Ln I' L1 c1 s1) (dd_RI Ln c1 s1 K) := by
              refine dd_lp (fun j => ∀ I' u, EU w b u → RM u I' → FB J I' → (∀ j, j < 522 → I' 152 j = nI (w j)) → dd_Rn d m_X11_ears (59, [.ref 148, .int (nI b), .int (msk (fun e => allN (eaP w tp b e) (tl / 2)) i), .int (nI i), .int (bI (allN (eaP w tp b i) j)), .int (nI (2 * j))], [], sM Ln I' L1 c1 s1) (dd_RI Ln c1 s1 K)) (tl / 2) ?_ ?_
              · intro I' u U R F k
                have e11 : I' 148 11 = nI tl := by rw [F.2 11 (by decide)]; exact k11
                refine w_X11_ears_59 (by omega) ?_
                rw [e11, nI_leI (by omega) (by omega), bI_z]
                simp only [nI_1]
                rw [show msk (fun e => allN (eaP w tp b e) (tl / 2)) i ||| 0 = msk (fun e => allN (eaP w tp b e) (tl / 2)) i from bX_ext (fun i hi => by rw [bX_or, bX_0, Bool.or_false])]
                refine ⟨fun _ => ⟨fun z => ?_, fun z => ?_⟩, fun z => absurd (by omega) z⟩
                · rw [if_neg (by rw [z]; decide)] at ih
                  exact ih I' u _ _ U R F k
                · rw [if_pos (by cases hz : allN (eaP w tp b i) (tl / 2) with
                    | true => rfl
                    | false => exact absurd hz z)] at ih
                  exact ih I' u _ _ U R F k
              · intro j hj ihj I' u U R F k
                obtain ⟨x64, x1, _, _⟩ := heP_x ((allN_iff _ _).mp hh j hj)
                have t1' : tn (nI (2 * j)) = 2 * j := nI_clamp (by omega)
                have t2' : tn (nI (2 * j + 1)) = 2 * j + 1 := nI_clamp (by omega)
                have e22 : nI (2 * j) + 2 = nI (2 * (j + 1)) := by rw [li_2, nI_add]; congr 1
                have b1 := (byt_b _ (t2 (2 * j))).1 (by omega)
                have b2 := (byt_b _ (t2 (2 * j + 1))).1 (by omega)
                have e11 : I' 148 11 = nI tl := by rw [F.2 11 (by decide)]; exact k11
                have e54 : ∀ I2, FB J I2 → ∀ j, j < 400 → I2 154 j = byt (tp j) := fun I2 F2 j hj => by rw [F2.1 154 (by decide) (by decide)]; exact k54 j hj
                refine w_X11_ears_59 (by omega) ?_
                rw [e11, nI_leI (by omega) (by omega), bI_z]
                simp only [nI_1, e22, t1', t2']
                rw [e54 I' F _ (by omega), b1]
                rw [allN] at ihj
                refine ⟨fun z => absurd z (by omega), fun _ => ⟨fun z => ?_, fun z => ⟨⟨nI_pos' (by omega), by omega⟩, ?_⟩⟩⟩
                · rw [z, Bool.false_and] at ihj
                  exact ihj I' u U R F k
                · have zt : allN (eaP w tp b i) j = true := by
                    cases hz : allN (eaP w tp b i) j with
                    | true => rfl
                    | false => exact absurd hz z
                  rw [zt, Bool.true_and] at ihj
                  refine M_wouldHear (w := w) (u := u) (by omega) R hO U (by omega) x64 (by omega) fun I2 u2 U2 R2 F2 => ?_
                  have F12 : FB J I2 := F.trans (F2.mono (by decide) (by decide))
                  have k2 : ∀ j, j < 522 → I2 152 j = nI (w j) := fun j hj => by rw [F2.1 152 (by decide) (by decide)]; exact k j hj
                  have bi1 : ∀ t : Bool, bI t = 1 ↔ t = true := by decide
                  rw [e54 I2 F12 _ (by omega), b2, nI1i x1, bi1, bI_z]
                  have fin := ihj I2 u2 U2 R2 F12 k2
                  have yes : eaP w tp b i j = true → dd_Rn d m_X11_ears (59, [.ref 148, .int (nI b), .int (msk (fun e => allN (eaP w tp b e) (tl / 2)) i), .int (nI i), .int 1, .int (nI (2 * (j + 1)))], [], sM Ln I2 L1 c1 s1) (dd_RI Ln c1 s1 K) := fun p => by rw [p] at fin; exact fin
                  have no : eaP w tp b i j = false → dd_Rn d m_X11_ears (59, [.ref 148, .int (nI b), .int (msk (fun e => allN (eaP w tp b e) (tl / 2)) i), .int (nI i), .int 0, .int (nI (2 * (j + 1)))], [], sM Ln I2 L1 c1 s1) (dd_RI Ln c1 s1 K) := fun p => by rw [p] at fin; exact fin
                  refine ⟨⟨nI_pos' (by omega), by omega⟩, fun z => ⟨fun z2 => yes (by unfold eaP; rw [z2, decide_eq_true z]; rfl), fun z2 => no ?_⟩, fun z => ⟨fun z2 => yes (by unfold eaP; rw [z2, decide_eq_false z]; rfl), fun z2 => no ?_⟩⟩
                  · unfold eaP
                    rw [decide_eq_true z]
                    cases hz : eaH w b i (tp (2 * j)) with
                    | true => exact absurd hz z2
                    | false => rfl
                  · unfold eaP
                    rw [decide_eq_false z]
                    cases hz : eaH w b i (tp (2 * j)) with
                    | true => rfl
                    | false => exact absurd hz z2
            exact inner I' u U R F k
        refine key _ w _ _ ⟨hO, stat.refl w, rfl, rfl, rfl⟩ (rJ.of (dd_un (by decide))) ((FR.refl J).u (by decide) (by decide)) (fun j hj => by rw [dd_us]; exact hf0 j hj)
    | false =>
      refine PW.tp h 2 0 ?_ ?_
      · intro K g
        refine w_L_ears_0 (by omega) ?_
        refine w_X10_ears_0 (by omega) (rqC hC.boys (fun z => absurd hv z) fun _ => ?_)
        rw [t4]
        show dd_Ev (d - 1 - 1) m_X10_tellsEars [.ref 0, .int (nI tl)] (sM Ln (TC I) L c s) _
        refine C_tellsEars (w := w) (tp := tp) (tl := tl) (by omega) cT hO t1 t2 tT ?_
        rw [hs]
        exact ⟨fun _ => dd_qX (Or.inr ⟨rfl, dd_qJt (g _ _ _ _ (cs1t c s) (FC.refl _ _) (fun q => absurd q (by decide)))⟩), fun z => absurd rfl z⟩
      · intro I1 L1 c1 s1 hR t9 t54 K g
        refine w_X11_ears_0 (by omega) ?_
        rw [TJ_e]
        refine rqM (hR.g (by omega)) (by omega) (fun z => absurd hv z) fun _ => ?_
        have rJ : RM w (TJ I1) := hR.of (TJ_o (by decide))
        have k11 : TJ I1 148 11 = nI tl := by rw [TJ_11]; exact t9
        have k54 : ∀ j, j < 400 → TJ I1 154 j = byt (tp j) := fun j hj => by rw [TJ_o (by decide)]; exact t54 j hj
        generalize TJ I1 = J at *
        refine M_isHeardTape (w := w) (tp := tp) (tl := tl) (by omega) rJ hO t1 t2 k11 k54 ?_
        rw [hs]
        exact ⟨fun _ => mqT rJ (by decide) g, fun z => absurd rfl z⟩
  · refine PW.tp h 1 0 ?_ ?_
    · intro K g
      refine w_L_ears_0 (by omega) ?_
      refine w_X10_ears_0 (by omega) (rqC hC.boys (fun _ => ?_) fun z => absurd z hv)
      exact dd_qX (Or.inl ⟨rfl, dd_qJt (g (TC I) _ _ _ (cs1t c s) (FC.refl _ _) (fun q => absurd q (by decide)))⟩)
    · intro I1 L1 c1 s1 hR t9 t54 K g
      refine w_X11_ears_0 (by omega) ?_
      have e1 : dd_u (dd_u (dd_u (dd_u (dd_u I1 148 (upd (I1 148) 0 0)) 148 (upd (upd (I1 148) 0 0) 11 (I1 148 9))) 148 (upd (upd (upd (I1 148) 0 0) 11 (I1 148 9)) 9 0)) 148 (upd (upd (upd (upd (I1 148) 0 0) 11 (I1 148 9)) 9 0) 10 0)) 148 (upd (upd (upd (upd (upd (I1 148) 0 0) 11 (I1 148 9)) 9 0) 10 0) 0 1) = dd_u (TJ I1) 148 (upd (TJ I1 148) 0 1) := by
        rw [TJ_e]
        have : TJ I1 148 = upd (upd (upd (upd (I1 148) 0 0) 11 (I1 148 9)) 9 0) 10 0 := by unfold TJ; rw [dd_us]
        rw [this]
      rw [e1]
      have rJ : RM w (TJ I1) := hR.of (TJ_o (by decide))
      exact rqM (hR.g (by omega)) (by omega) (fun _ => mqT rJ (by decide) g) fun z => absurd z hv
