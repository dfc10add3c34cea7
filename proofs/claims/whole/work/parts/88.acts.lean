/-! Acts: fire -/
def fireA (w : Nat → Nat) (x : Nat) : Nat → (Nat → Nat) := lpf (fun b u => pbw u b (if u (187 + 5 * b + 3) = 1 then x else u (187 + 5 * b))) (upw w 4 x)
theorem fireA_ok {w : Nat → Nat} {x : Nat} (hO : OKW w) (ho : opF w) (hx : x < 64) (hox : ¬ w (11 + x) = 1) : ∀ i, i ≤ w 1 → OKW (fireA w x i) ∧ fireA w x i 4 = x ∧ (∀ j, (j < 4 ∨ (5 ≤ j ∧ j < 187) ∨ 222 ≤ j) → fireA w x i j = w j) ∧ (∀ b, b < i → inb (fireA w x i) b) ∧ (∀ b k, i ≤ b → b < 7 → k < 5 → fireA w x i (187 + 5 * b + k) = w (187 + 5 * b + k)) ∧ (∀ b, b < w 1 → ¬ w (11 + fireA w x i (187 + 5 * b)) = 1) := by
  have w1 := hO.1.2.1
  intro i
  induction i with
  | zero =>
    intro _
    have e0 : fireA w x 0 = upw w 4 x := rfl
    rw [e0]
    refine ⟨okW_s hO (by omega) (by omega) (by omega), upw_eq, fun j hj => upw_ne (by omega), fun b hb => absurd hb (Nat.not_lt_zero b), fun b k _ _ _ => upw_ne (by omega), fun b hb => ?_⟩
    rw [upw_ne (show 187 + 5 * b ≠ 4 by omega)]
    exact ho.2 b hb
  | succ i ih =>
    intro hi
    obtain ⟨q1, q2, q3, q4, q5, q6⟩ := ih (by omega)
    have es : fireA w x (i + 1) = pbw (fireA w x i) i (if fireA w x i (187 + 5 * i + 3) = 1 then x else fireA w x i (187 + 5 * i)) := rfl
    have c1 := (q1.2.2.2.1 i (by omega)).2.1
    have hx' : (if fireA w x i (187 + 5 * i + 3) = 1 then x else fireA w x i (187 + 5 * i)) < 64 := by split <;> omega
    have ho' : ¬ w (11 + (if fireA w x i (187 + 5 * i + 3) = 1 then x else fireA w x i (187 + 5 * i))) = 1 := by
      split
      · exact hox
      · exact q6 i (by omega)
    rw [es]
    generalize (if fireA w x i (187 + 5 * i + 3) = 1 then x else fireA w x i (187 + 5 * i)) = y at *
    refine ⟨okW_pb q1 (by omega) hx', ?_, ?_, ?_, ?_, ?_⟩
    · rw [pbw_o (by omega) (by omega)]; exact q2
    · intro j hj
      rw [pbw_o (by omega) (by omega)]; exact q3 j hj
    · intro b hb
      by_cases e : b = i
      · subst e; exact inb_pb
      · exact inb_pbo (q4 b (by omega)) e
    · intro b k hb h7 hk
      rw [pbw_o (by omega) (by omega)]; exact q5 b k (by omega) h7 hk
    · intro b hb
      by_cases e : b = i
      · subst e; rw [pbw_c]; exact ho'
      · rw [pbw_o (by omega) (by omega)]; exact q6 b hb
theorem GOOD_fire {w : Nat → Nat} {x : Nat} (h : GOOD w) (hx : x < 64) (hox : ¬ w (11 + x) = 1) : GOOD (fireA w x (w 1)) := by
  obtain ⟨g1, g2, g3, g5, g6⟩ := h
  have w1 := g1.1.2.1
  obtain ⟨q1, q2, q3, q4, q5, q6⟩ := fireA_ok g1 g3 hx hox (w 1) (Nat.le_refl _)
  have e1 : fireA w x (w 1) 1 = w 1 := q3 1 (by omega)
  refine ⟨q1, ?_, ⟨?_, ?_⟩, ?_, ?_⟩
  · intro b hb
    rw [e1] at hb
    exact q4 b hb
  · rw [q2, q3 _ (by omega)]; exact hox
  · intro b hb
    rw [e1] at hb
    have := (q1.2.2.2.1 b (by omega)).2.1
    rw [q3 (11 + _) (by omega)]
    exact q6 b hb
  · intro a ha
    rw [q3 9 (by omega)] at ha
    rw [q3 _ (by omega), q3 _ (by omega), q3 _ (by omega), q3 _ (by omega), q3 _ (by omega)]
    exact g5 a ha
  · intro b hb h6
    rw [e1] at hb
    rw [q5 b 3 hb (by omega) (by omega)]
    exact g6 b hb h6
theorem C_putFire {d Ln c s : Nat} {I : Nat → Nat → Int32} {L : Nat → Nat → Int64} {K : (Nat → Nat → Int32) → (Nat → Nat → Int64) → Prop} {w : Nat → Nat} {x : Nat} (hd : 30 ≤ d) (hC : RC w I L) (hO : OKW w) (ho : opF w) (hx : x < 64) (hox : ¬ w (11 + x) = 1) (kk : ∀ I', RC (fireA w x (w 1)) I' L → FR 25 [1, 4] [] I I' → K I' L) : dd_Ev d m_X8_putFire [.ref 1, .int (nI x)] (sM Ln I L c s) (dd_RV Ln c s K) := by
  have w1 := hO.1.2.1
  refine w_X8_putFire_0 (by omega) ?_
  have key : ∀ I', RC (fireA w x 0) I' L → FR 25 [1, 4] [] I I' → dd_Rn d m_X8_putFire (7, [.ref 1, .int (nI x), .int (nI 0)], [], sM Ln I' L c s) (dd_RV Ln c s K) := by
    refine dd_lp (fun i => ∀ I', RC (fireA w x i) I' L → FR 25 [1, 4] [] I I' → dd_Rn d m_X8_putFire (7, [.ref 1, .int (nI x), .int (nI i)], [], sM Ln I' L c s) (dd_RV Ln c s K)) (w 1) ?_ ?_
    · intro I' r f
      obtain ⟨q1, q2, q3, q4, q5, q6⟩ := fireA_ok hO ho hx hox (w 1) (Nat.le_refl _)
      refine w_X8_putFire_7 (by omega) ?_
      rw [r.boys, q3 1 (by omega), nI_leI (by omega) (by omega)]
      exact ⟨fun _ => dd_qV (kk I' r f), fun z => absurd (Nat.le_refl _) z⟩
    · intro i hi ih I' r f
      obtain ⟨q1, q2, q3, q4, q5, q6⟩ := fireA_ok hO ho hx hox i (by omega)
      have c1 := (q1.2.2.2.1 i (by omega)).2.1
      have es : fireA w x (i + 1) = pbw (fireA w x i) i (if fireA w x i (187 + 5 * i + 3) = 1 then x else fireA w x i (187 + 5 * i)) := rfl
      have ti : tn (nI i) = i := nI_clamp (by omega)
      refine w_X8_putFire_7 (by omega) ?_
      rw [r.boys, q3 1 (by omega), nI_leI (by omega) (by omega), ti, nI_1]
      refine ⟨fun z => absurd z (by omega), fun _ => ?_⟩
      refine C_isIn (w := fireA w x i) (by omega) r (by omega) ?_
      rw [bI_z]
      refine ⟨fun z => ⟨⟨nI_pos' (by omega), by omega⟩, ?_⟩, fun z => ?_⟩
      · rw [if_neg (of_decide_eq_false z)] at es
        rw [r.cell (by omega)]
        refine C_putBoy (by omega) r (by omega) (by omega) c1 fun I2 r2 f2 => ?_
        exact ih I2 (by rw [es]; exact r2) (f.trans f2)
      · have z' : fireA w x i (187 + 5 * i + 3) = 1 := Decidable.of_not_not (fun z2 => z (decide_eq_false z2))
        rw [if_pos z'] at es
        refine C_putBoy (by omega) r (by omega) (by omega) hx fun I2 r2 f2 => ?_
        exact ih I2 (by rw [es]; exact r2) (f.trans f2)
  refine key _ (hC.uFire (v := x)) ((FR.refl I).u (by decide) (by decide))
theorem M_comesIn {d Ln c s : Nat} {I : Nat → Nat → Int32} {L : Nat → Nat → Int64} {K : (Nat → Nat → Int32) → (Nat → Nat → Int64) → Prop} {w : Nat → Nat} {b : Nat} (hd : 28 ≤ d) (hR : RM w I) (hb : b ≤ 6) (k : ∀ I', RM (pbw w b (w 4)) I' → FR 148 [149] [] I I' → K I' L) : dd_Ev d m_X11_comesIn [.ref 148, .int (nI b)] (sM Ln I L c s) (dd_RV Ln c s K) := by
  have e3 : (187 : Int32) + (5 : Int32) * nI b + 3 = nI (187 + 5 * b + 3) := by rw [li_187, li_5, li_3, pk_mul, nI_add, nI_add]
  have e0 : (187 : Int32) + (5 : Int32) * nI b + 0 = nI (187 + 5 * b) := by rw [li_187, li_5, li_0, pk_mul, nI_add, nI_add, Nat.add_zero]
  have t3 : tn (nI (187 + 5 * b + 3)) = 187 + 5 * b + 3 := nI_clamp (by omega)
  have t0 : tn (nI (187 + 5 * b)) = 187 + 5 * b := nI_clamp (by omega)
  refine w_X11_comesIn_0 (by omega) ?_
  rw [e0, t0, e3, t3, hR.g (by omega), dd_u_u]
  refine ⟨⟨nI_pos' (by omega), by omega⟩, ⟨nI_pos' (by omega), by omega⟩, dd_qV (k _ ?_ ((FR.refl I).u (by decide) (by decide)))⟩
  unfold pbw
  rw [if_pos rfl]
  exact RM.set (nu (nu hR _ _) _ 1)
theorem M_firesAt {d Ln c s : Nat} {I : Nat → Nat → Int32} {L : Nat → Nat → Int64} {K : (Nat → Nat → Int32) → (Nat → Nat → Int64) → Prop} {w : Nat → Nat} {x : Nat} (hd : 30 ≤ d) (hR : RM w I) (hO : OKW w) (ho : opF w) (hx : x < 64) (hox : ¬ w (11 + x) = 1) (k : ∀ I', RM (fireA w x (w 1)) I' → FR 148 [149] [] I I' → K I' L) : dd_Ev d m_X11_firesAt [.ref 148, .int (nI x)] (sM Ln I L c s) (dd_RV Ln c s K) := by
  have w1 := hO.1.2.1
  refine w_X11_firesAt_0 (by omega) ?_
  have key : ∀ I', RM (fireA w x 0) I' → FR 148 [149] [] I I' → dd_Rn d m_X11_firesAt (9, [.ref 148, .int (nI x), .int (nI 0)], [], sM Ln I' L c s) (dd_RV Ln c s K) := by
    refine dd_lp (fun i => ∀ I', RM (fireA w x i) I' → FR 148 [149] [] I I' → dd_Rn d m_X11_firesAt (9, [.ref 148, .int (nI x), .int (nI i)], [], sM Ln I' L c s) (dd_RV Ln c s K)) (w 1) ?_ ?_
    · intro I' r f
      obtain ⟨q1, q2, q3, q4, q5, q6⟩ := fireA_ok hO ho hx hox (w 1) (Nat.le_refl _)
      refine w_X11_firesAt_9 (by omega) ?_
      rw [r.g (by omega), q3 1 (by omega), nI_leI (by omega) (by omega)]
      exact ⟨fun _ => dd_qV (k I' r f), fun z => absurd (Nat.le_refl _) z⟩
    · intro i hi ih I' r f
      obtain ⟨q1, q2, q3, q4, q5, q6⟩ := fireA_ok hO ho hx hox i (by omega)
      obtain ⟨c0, c1, c2, c3, c4, c5⟩ := q1.2.2.2.1 i (by omega)
      have es : fireA w x (i + 1) = pbw (fireA w x i) i (if fireA w x i (187 + 5 * i + 3) = 1 then x else fireA w x i (187 + 5 * i)) := rfl
      have e3 : (187 : Int32) + (5 : Int32) * nI i + 3 = nI (187 + 5 * i + 3) := by rw [li_187, li_5, li_3, pk_mul, nI_add, nI_add]
      have e0 : (187 : Int32) + (5 : Int32) * nI i + 0 = nI (187 + 5 * i) := by rw [li_187, li_5, li_0, pk_mul, nI_add, nI_add, Nat.add_zero]
      have t3 : tn (nI (187 + 5 * i + 3)) = 187 + 5 * i + 3 := nI_clamp (by omega)
      have t0 : tn (nI (187 + 5 * i)) = 187 + 5 * i := nI_clamp (by omega)
      refine w_X11_firesAt_9 (by omega) ?_
      rw [e3, t3, e0, t0, r.g (show 1 < 1371 by omega), r.g (show 187 + 5 * i + 3 < 1371 by omega), r.g (show 187 + 5 * i < 1371 by omega), q3 1 (by omega), nI_leI (by omega) (by omega), nI1i (by omega), nI_eq (by omega) (by omega), nI_1]
      refine ⟨fun z => absurd z (by omega), fun _ => ⟨⟨nI_pos' (by omega), by omega⟩, fun z => ?_, fun z => ⟨⟨nI_pos' (by omega), by omega⟩, fun z2 => ?_, fun z2 => ?_⟩⟩⟩
      · rw [if_pos z] at es
        refine M_comesIn (w := fireA w x i) (by omega) r (by omega) fun I2 r2 f2 => ?_
        rw [q2] at r2
        exact ih I2 (by rw [es]; exact r2) (f.trans f2)
      · rw [if_neg z, z2] at es
        refine M_comesIn (w := fireA w x i) (by omega) r (by omega) fun I2 r2 f2 => ?_
        rw [q2] at r2
        exact ih I2 (by rw [es]; exact r2) (f.trans f2)
      · rw [if_neg z] at es
        have e : pbw (fireA w x i) i (fireA w x i (187 + 5 * i)) = fireA w x i := by
          funext j
          unfold pbw
          rw [q2, if_neg z2]
          by_cases j3 : j = 187 + 5 * i + 3
          · subst j3; rw [upw_eq]; omega
          · rw [upw_ne j3]
            by_cases j0 : j = 187 + 5 * i
            · subst j0; rw [upw_eq]
            · rw [upw_ne j0]
        rw [e] at es
        exact ih I' (by rw [es]; exact r) f
  refine key _ (RM.set (nu hR 4 x)) ((FR.refl I).u (by decide) (by decide))
theorem A_fire {d Ln c s : Nat} {I0 I : Nat → Nat → Int32} {L : Nat → Nat → Int64} {w : Nat → Nat} {im : Option (Nat → Nat)} {na od : Nat} {A : Nat → Nat → Nat} {tp : Nat → Nat} {tl : Nat} {fa : Option Nat} (hd : 60 ≤ d) (h : INV I0 w im na od A tp tl fa I L) (a : Int32) : PW d m_L_fire [.ref 0, .int a, .ref 163] m_X11_fire [.ref 148, .int a] I0 Ln c s I L := by
  have hO := h.1.1
  have hC := h.2.2.1
  have w1 := hO.1.2.1
  have w4 := hO.1.2.2.2.1
  have na12 := h.2.2.2.2.2.1.1
  by_cases hv : vld a 64
  · obtain ⟨x, hx, rfl⟩ := vld_i (by omega) hv
    have tx := (hO.2.1 x hx).1
    have e11 : (11 : Int32) + nI x = nI (11 + x) := by rw [li_11, nI_add]
    have t11 : tn (nI (11 + x)) = 11 + x := nI_clamp (by omega)
    by_cases hop : w (11 + x) = 1
    · refine PW.q h _ 0 (WR2 (e1 := 2) (e2 := 4) (o := some 4) (w_L_fire_0 (by omega)) (by decide) (Or.inr (Or.inr rfl)) ?_) ?_
      · intro K T g1 g2
        refine w_X10_fire_0 (by omega) (rqC (n := 64) rfl (fun z => absurd hv z) fun _ => ?_)
        refine C_isOpen (w := w) (by omega) hC (by omega) ?_
        rw [(opn_f hx).mpr hop]
        exact ⟨fun _ => dd_qX (g2 4 rfl), fun z => absurd rfl z⟩
      · intro I1 L1 c1 s1 h1 K g
        have hR := h1.2.1
        refine w_X11_fire_0 (by omega) ?_
        simp only [dd_u_u, upd_uu]
        refine rqN (m := 63) rfl (by omega) (fun z => absurd hv z) fun _ => ?_
        rw [e11, t11, hR.g (by omega), nI1i (by omega)]
        exact ⟨⟨nI_pos' (by omega), by omega⟩, fun _ => mqT hR (by decide) g, fun z => absurd hop z⟩
    · have sl : sameL w (fireA w x (w 1)) := by
        obtain ⟨q1, q2, q3, q4, q5, q6⟩ := fireA_ok hO h.1.2.2.1 hx hop (w 1) (Nat.le_refl _)
        exact ⟨q3 3 (by omega), fun j hj => q3 j (by omega)⟩
      refine PW.act (v := nI (w 4)) (w' := fireA w x (w 1)) h (w_L_fire_0 (by omega)) (GOOD_fire h.1 hx hop) sl ?_ ?_
      · intro K T g
        refine w_X10_fire_0 (by omega) (rqC (n := 64) rfl (fun z => absurd hv z) fun _ => ?_)
        refine C_isOpen (w := w) (by omega) hC (by omega) ?_
        rw [opn_t.mpr ⟨hx, hop⟩]
        refine ⟨fun z => absurd z (by decide), fun _ => ?_⟩
        refine C_remA (by omega) h fun I1 L1 r1 _ c1 f1 l1 => ?_
        rw [r1.fire]
        refine C_putFire (by omega) r1 hO h.1.2.2.1 hx hop fun I2 r2 f2 => ?_
        obtain ⟨q1, q2, q3⟩ := FC.k (FRm f2) (by decide)
        exact dd_qT (g I1 L1 I2 L1 c1 f1 l1 r2 q1 q2 q3 (fun _ _ _ => rfl))
      · intro I2 L2 hR ha K g
        refine w_X11_fire_0 (by omega) (rqN (m := 63) rfl (by omega) (fun z => absurd hv z) fun _ => ?_)
        rw [e11, t11, hR.g (by omega), nI1i (by omega)]
        refine ⟨⟨nI_pos' (by omega), by omega⟩, fun z => absurd z hop, fun _ => ?_⟩
        refine M_remA (w := w) (na := na) (A := A) (by omega) hR na12 ha fun I3 r3 m3 f3 t3' => ?_
        rw [r3.g (by omega)]
        refine M_firesAt (by omega) r3 hO h.1.2.2.1 hx hop fun I4 r4 f4 => ?_
        exact dd_qi (g I3 I4 m3 f3 t3' r4 (FM.fr f4 (by decide) (by decide)) (f4.2 0 (by decide)))
  · refine PW.q h _ 0 (WR2 (e1 := 2) (e2 := 4) (o := some 2) (w_L_fire_0 (by omega)) (by decide) (Or.inr (Or.inl rfl)) ?_) ?_
    · intro K T g1 g2
      exact w_X10_fire_0 (by omega) (rqC (n := 64) rfl (fun _ => dd_qX (g2 2 rfl)) fun z => absurd z hv)
    · intro I1 L1 c1 s1 h1 K g
      have hR := h1.2.1
      refine w_X11_fire_0 (by omega) ?_
      simp only [dd_u_u, upd_uu]
      exact rqN (m := 63) rfl (by omega) (fun _ => mqT hR (by decide) g) fun z => absurd z hv
