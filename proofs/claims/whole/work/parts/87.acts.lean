/-! Acts: call, send -/
theorem pbw_o {w : Nat → Nat} {b x j : Nat} (h1 : j ≠ 187 + 5 * b) (h2 : j ≠ 187 + 5 * b + 3) : pbw w b x j = w j := by
  unfold pbw
  rw [upw_ne h2, upw_ne h1]
theorem pbw_c {w : Nat → Nat} {b x : Nat} : pbw w b x (187 + 5 * b) = x := by
  unfold pbw
  rw [upw_ne (by omega), upw_eq]
theorem pbw_i {w : Nat → Nat} {b x : Nat} : pbw w b x (187 + 5 * b + 3) = if x = w 4 then 1 else 0 := by
  unfold pbw
  rw [upw_eq]
theorem okW_pb {w : Nat → Nat} {b x : Nat} (h : OKW w) (hb : b ≤ 6) (hx : x < 64) : OKW (pbw w b x) := by
  unfold pbw
  have o1 : OKW (upw w (187 + 5 * b) x) := okW_b (k := 0) h hb (by omega) (by omega)
  exact okW_b o1 hb (by omega) ⟨by omega, by omega, by omega, fun _ => by split <;> omega, by omega⟩
theorem inb_pb {w : Nat → Nat} {b x : Nat} : inb (pbw w b x) b := by
  unfold inb
  rw [pbw_i, pbw_c, pbw_o (by omega) (by omega)]
  by_cases q : x = w 4
  · rw [if_pos q]; exact ⟨fun _ => q, fun _ => rfl⟩
  · rw [if_neg q]; exact ⟨fun z => absurd z (by decide), fun z => absurd z q⟩
theorem inb_pbo {w : Nat → Nat} {b b' x : Nat} (h : inb w b') (ne : b' ≠ b) : inb (pbw w b x) b' := by
  unfold inb at *
  rw [pbw_o (by omega) (by omega), pbw_o (by omega) (by omega), pbw_o (by omega) (by omega)]
  exact h
theorem GOOD_pb {w : Nat → Nat} {b x : Nat} (h : GOOD w) (hb : b < w 1) (hx : x < 64) (ho : ¬ w (11 + x) = 1) : GOOD (pbw w b x) := by
  obtain ⟨g1, g2, ⟨g3, g4⟩, g5, g6⟩ := h
  have w4 := g1.1.2.2.2.1
  have w1 := g1.1.2.1
  refine ⟨okW_pb g1 (by omega) hx, ?_, ⟨?_, ?_⟩, ?_, ?_⟩
  · intro b' hb'
    rw [pbw_o (by omega) (by omega)] at hb'
    by_cases q : b' = b
    · subst q; exact inb_pb
    · exact inb_pbo (g2 b' hb') q
  · rw [pbw_o (j := 4) (by omega) (by omega), pbw_o (by omega) (by omega)]
    exact g3
  · intro b' hb'
    rw [pbw_o (by omega) (by omega)] at hb'
    have b1 := (g1.2.2.2.1 b' (by omega)).2.1
    by_cases q : b' = b
    · subst q
      rw [pbw_c, pbw_o (by omega) (by omega)]
      exact ho
    · rw [pbw_o (j := 187 + 5 * b') (by omega) (by omega), pbw_o (by omega) (by omega)]
      exact g4 b' hb'
  · intro a ha
    rw [pbw_o (by omega) (by omega)] at ha
    rw [pbw_o (by omega) (by omega), pbw_o (by omega) (by omega), pbw_o (by omega) (by omega), pbw_o (by omega) (by omega), pbw_o (by omega) (by omega)]
    exact g5 a ha
  · intro b' hb' h6
    rw [pbw_o (by omega) (by omega)] at hb'
    rw [pbw_o (by omega) (by omega)]
    exact g6 b' hb' h6
theorem sameL_pb {w : Nat → Nat} {b x : Nat} (hb : b ≤ 6) : sameL w (pbw w b x) := ⟨pbw_o (by omega) (by omega), fun j hj => pbw_o (by omega) (by omega)⟩
theorem bI_z {b : Bool} : bI b = 0 ↔ b = false := by cases b <;> decide
theorem FRm {z : Nat} {A B : List Nat} {I J : Nat → Nat → Int32} (h : FR z A [] I J) : FR z A B I J := h.mono (fun _ q => q) (fun _ q => absurd q List.not_mem_nil)
theorem nI1i {n : Nat} (h : n ≤ 1) : nI n = 1 ↔ n = 1 := by
  rw [li_1]
  exact ⟨fun z => (nI_eq (by omega) (by omega)).mp z, fun z => by rw [z]⟩
theorem A_call {d Ln c s : Nat} {I0 I : Nat → Nat → Int32} {L : Nat → Nat → Int64} {w : Nat → Nat} {im : Option (Nat → Nat)} {na od : Nat} {A : Nat → Nat → Nat} {tp : Nat → Nat} {tl : Nat} {fa : Option Nat} (hd : 60 ≤ d) (h : INV I0 w im na od A tp tl fa I L) (a : Int32) : PW d m_L_call [.ref 0, .int a, .ref 163] m_X11_call [.ref 148, .int a] I0 Ln c s I L := by
  have hO := h.1.1
  have hC := h.2.2.1
  have w1 := hO.1.2.1
  have w4 := hO.1.2.2.2.1
  have na12 := h.2.2.2.2.2.1.1
  by_cases hv : vld a (w 1)
  · obtain ⟨b, hb, rfl⟩ := vld_i (by omega) hv
    obtain ⟨b0, b1, b2, b3, b4, b5⟩ := hO.2.2.2.1 b (by omega)
    have tb : tn (nI b) = b := nI_clamp (by omega)
    have e3 : (187 : Int32) + (5 : Int32) * nI b + 3 = nI (187 + 5 * b + 3) := by rw [li_187, li_5, li_3, pk_mul, nI_add, nI_add]
    have e0 : (187 : Int32) + (5 : Int32) * nI b + 0 = nI (187 + 5 * b) := by rw [li_187, li_5, li_0, pk_mul, nI_add, nI_add, Nat.add_zero]
    have t3 : tn (nI (187 + 5 * b + 3)) = 187 + 5 * b + 3 := nI_clamp (by omega)
    have t0 : tn (nI (187 + 5 * b)) = 187 + 5 * b := nI_clamp (by omega)
    by_cases hin : w (187 + 5 * b + 3) = 1
    · refine PW.q h _ 0 (WR2 (e1 := 2) (e2 := 4) (o := some 4) (w_L_call_0 (by omega)) (by decide) (Or.inr (Or.inr rfl)) ?_) ?_
      · intro K T g1 g2
        refine w_X10_call_0 (by omega) (rqC hC.boys (fun z => absurd hv z) fun _ => ?_)
        refine C_isIn (w := w) (by omega) hC (by omega) ?_
        rw [decide_eq_true hin]
        exact ⟨fun z => absurd z (by decide), fun _ => dd_qX (g2 4 rfl)⟩
      · intro I1 L1 c1 s1 h1 K g
        have hR := h1.2.1
        refine w_X11_call_0 (by omega) ?_
        simp only [dd_u_u, upd_uu]
        refine rqM (hR.g (by omega)) (by omega) (fun z => absurd hv z) fun _ => ?_
        rw [e3, t3, hR.g (by omega), nI1i (by omega)]
        exact ⟨⟨nI_pos' (by omega), by omega⟩, fun _ => mqT hR (by decide) g, fun z => absurd hin z⟩
    · refine PW.act (v := nI (w (187 + 5 * b))) (w' := pbw w b (w 4)) h (w_L_call_0 (by omega)) (GOOD_pb h.1 hb w4 h.1.2.2.1.1) (sameL_pb (by omega)) ?_ ?_
      · intro K T g
        refine w_X10_call_0 (by omega) (rqC hC.boys (fun z => absurd hv z) fun _ => ?_)
        refine C_isIn (w := w) (by omega) hC (by omega) ?_
        rw [decide_eq_false hin]
        refine ⟨fun _ => ?_, fun z => absurd rfl z⟩
        refine C_remA (by omega) h fun I1 L1 r1 _ c1 f1 l1 => ?_
        rw [tb, r1.cell (by omega), r1.fire]
        refine ⟨⟨nI_pos' (by omega), by omega⟩, ?_⟩
        refine C_putBoy (by omega) r1 w4 (by omega) w4 fun I2 r2 f2 => ?_
        obtain ⟨q1, q2, q3⟩ := FC.k (FRm f2) (by decide)
        exact dd_qT (g I1 L1 I2 L1 c1 f1 l1 r2 q1 q2 q3 (fun _ _ _ => rfl))
      · intro I2 L2 hR ha K g
        refine w_X11_call_0 (by omega) (rqM (hR.g (by omega)) (by omega) (fun z => absurd hv z) fun _ => ?_)
        rw [e3, t3, hR.g (by omega), nI1i (by omega)]
        refine ⟨⟨nI_pos' (by omega), by omega⟩, fun z => absurd z hin, fun _ => ?_⟩
        refine M_remA (w := w) (na := na) (A := A) (by omega) hR na12 ha fun I3 r3 m3 f3 t3' => ?_
        rw [e0, t0, r3.g (by omega)]
        refine ⟨⟨nI_pos' (by omega), by omega⟩, ?_⟩
        refine w_X11_comesIn_0 (by omega) ?_
        rw [e0, t0, e3, t3, r3.g (by omega), dd_u_u]
        refine ⟨⟨nI_pos' (by omega), by omega⟩, ⟨nI_pos' (by omega), by omega⟩, dd_qV (dd_qi (g I3 _ m3 f3 t3' ?_ (FM.fr (A := [149]) (B := []) ((FR.refl I3).u (by decide) (by decide)) (by decide) (by decide)) (by rw [dd_un (by decide)])))⟩
        unfold pbw
        rw [if_pos rfl]
        exact RM.set (nu (nu r3 _ _) _ 1)
  · refine PW.q h _ 0 (WR2 (e1 := 2) (e2 := 4) (o := some 2) (w_L_call_0 (by omega)) (by decide) (Or.inr (Or.inl rfl)) ?_) ?_
    · intro K T g1 g2
      exact w_X10_call_0 (by omega) (rqC hC.boys (fun _ => dd_qX (g2 2 rfl)) fun z => absurd z hv)
    · intro I1 L1 c1 s1 h1 K g
      have hR := h1.2.1
      refine w_X11_call_0 (by omega) ?_
      simp only [dd_u_u, upd_uu]
      exact rqM (hR.g (by omega)) (by omega) (fun _ => mqT hR (by decide) g) fun z => absurd z hv
theorem A_send {d Ln c s : Nat} {I0 I : Nat → Nat → Int32} {L : Nat → Nat → Int64} {w : Nat → Nat} {im : Option (Nat → Nat)} {na od : Nat} {A : Nat → Nat → Nat} {tp : Nat → Nat} {tl : Nat} {fa : Option Nat} (hd : 60 ≤ d) (h : INV I0 w im na od A tp tl fa I L) (a a2 : Int32) : PW d m_L_send [.ref 0, .int a, .int a2, .ref 163] m_X11_send [.ref 148, .int a, .int a2] I0 Ln c s I L := by
  have hO := h.1.1
  have hC := h.2.2.1
  have w1 := hO.1.2.1
  have w4 := hO.1.2.2.2.1
  have na12 := h.2.2.2.2.2.1.1
  by_cases hv : vld a (w 1) ∧ vld a2 64
  · obtain ⟨b, hb, rfl⟩ := vld_i (by omega) hv.1
    obtain ⟨x, hx, rfl⟩ := vld_i (by omega) hv.2
    obtain ⟨b0, b1, b2, b3, b4, b5⟩ := hO.2.2.2.1 b (by omega)
    have tx := (hO.2.1 x hx).1
    have tb : tn (nI b) = b := nI_clamp (by omega)
    have e3 : (187 : Int32) + (5 : Int32) * nI b + 3 = nI (187 + 5 * b + 3) := by rw [li_187, li_5, li_3, pk_mul, nI_add, nI_add]
    have e0 : (187 : Int32) + (5 : Int32) * nI b + 0 = nI (187 + 5 * b) := by rw [li_187, li_5, li_0, pk_mul, nI_add, nI_add, Nat.add_zero]
    have t3 : tn (nI (187 + 5 * b + 3)) = 187 + 5 * b + 3 := nI_clamp (by omega)
    have t0 : tn (nI (187 + 5 * b)) = 187 + 5 * b := nI_clamp (by omega)
    have e11 : (11 : Int32) + nI x = nI (11 + x) := by rw [li_11, nI_add]
    have t11 : tn (nI (11 + x)) = 11 + x := nI_clamp (by omega)
    by_cases hop : w (11 + x) = 1 ∨ x = w 4
    · refine PW.q h _ 0 (WR2 (e1 := 2) (e2 := 4) (o := some 4) (w_L_send_0 (by omega)) (by decide) (Or.inr (Or.inr rfl)) ?_) ?_
      · intro K T g1 g2
        refine w_X10_send_0 (by omega) (rqC hC.boys (fun z => absurd hv.1 z) fun _ => rqC (n := 64) rfl (fun z => absurd hv.2 z) fun _ => ?_)
        refine C_isOpen (w := w) (by omega) hC (by omega) ?_
        rw [bI_z, hC.fire, nI_eq (by omega) (by omega)]
        refine ⟨fun _ => dd_qX (g2 4 rfl), fun z => ⟨fun _ => dd_qX (g2 4 rfl), fun z2 => ?_⟩⟩
        rcases hop with q | q
        · exact absurd ((opn_f hx).mpr q) z
        · exact absurd q z2
      · intro I1 L1 c1 s1 h1 K g
        have hR := h1.2.1
        refine w_X11_send_0 (by omega) ?_
        simp only [dd_u_u, upd_uu]
        refine rqM (hR.g (by omega)) (by omega) (fun z => absurd hv.1 z) fun _ => rqN (m := 63) rfl (by omega) (fun z => absurd hv.2 z) fun _ => ?_
        rw [e11, t11, hR.g (by omega), hR.g (by omega), nI1i (by omega), nI_eq (by omega) (by omega)]
        refine ⟨⟨nI_pos' (by omega), by omega⟩, fun _ => mqT hR (by decide) g, fun z => ⟨fun _ => mqT hR (by decide) g, fun z2 => ?_⟩⟩
        rcases hop with q | q
        · exact absurd q z
        · exact absurd q z2
    · have hop1 : ¬ w (11 + x) = 1 := fun z => hop (Or.inl z)
      have hop2 : ¬ x = w 4 := fun z => hop (Or.inr z)
      refine PW.act (v := nI (w (187 + 5 * b))) (w' := pbw w b x) h (w_L_send_0 (by omega)) (GOOD_pb h.1 hb hx hop1) (sameL_pb (by omega)) ?_ ?_
      · intro K T g
        refine w_X10_send_0 (by omega) (rqC hC.boys (fun z => absurd hv.1 z) fun _ => rqC (n := 64) rfl (fun z => absurd hv.2 z) fun _ => ?_)
        refine C_isOpen (w := w) (by omega) hC (by omega) ?_
        rw [opn_t.mpr ⟨hx, hop1⟩, hC.fire, nI_eq (by omega) (by omega)]
        refine ⟨fun z => absurd z (by decide), fun _ => ⟨fun z => absurd z hop2, fun _ => ?_⟩⟩
        refine C_remA (by omega) h fun I1 L1 r1 _ c1 f1 l1 => ?_
        rw [tb, r1.cell (by omega)]
        refine ⟨⟨nI_pos' (by omega), by omega⟩, ?_⟩
        refine C_putBoy (by omega) r1 w4 (by omega) hx fun I2 r2 f2 => ?_
        obtain ⟨q1, q2, q3⟩ := FC.k (FRm f2) (by decide)
        exact dd_qT (g I1 L1 I2 L1 c1 f1 l1 r2 q1 q2 q3 (fun _ _ _ => rfl))
      · intro I2 L2 hR ha K g
        refine w_X11_send_0 (by omega) (rqM (hR.g (by omega)) (by omega) (fun z => absurd hv.1 z) fun _ => rqN (m := 63) rfl (by omega) (fun z => absurd hv.2 z) fun _ => ?_)
        rw [e11, t11, hR.g (by omega), hR.g (by omega), nI1i (by omega), nI_eq (by omega) (by omega)]
        refine ⟨⟨nI_pos' (by omega), by omega⟩, fun z => absurd z hop1, fun _ => ⟨fun z => absurd z hop2, fun _ => ?_⟩⟩
        refine M_remA (w := w) (na := na) (A := A) (by omega) hR na12 ha fun I3 r3 m3 f3 t3' => ?_
        rw [e0, t0, e3, t3, r3.g (by omega), dd_u_u]
        refine ⟨⟨nI_pos' (by omega), by omega⟩, ⟨nI_pos' (by omega), by omega⟩, ⟨nI_pos' (by omega), by omega⟩, dd_qi (g I3 _ m3 f3 t3' ?_ (FM.fr (A := [149]) (B := []) ((FR.refl I3).u (by decide) (by decide)) (by decide) (by decide)) (by rw [dd_un (by decide)]))⟩
        unfold pbw
        rw [if_neg hop2]
        exact RM.set (nu (nu r3 _ _) _ 0)
  · refine PW.q h _ 0 (WR2 (e1 := 2) (e2 := 4) (o := some 2) (w_L_send_0 (by omega)) (by decide) (Or.inr (Or.inl rfl)) ?_) ?_
    · intro K T g1 g2
      exact w_X10_send_0 (by omega) (rqC hC.boys (fun _ => dd_qX (g2 2 rfl)) fun z => rqC (n := 64) rfl (fun _ => dd_qX (g2 2 rfl)) fun z2 => absurd ⟨z, z2⟩ hv)
    · intro I1 L1 c1 s1 h1 K g
      have hR := h1.2.1
      refine w_X11_send_0 (by omega) ?_
      simp only [dd_u_u, upd_uu]
      exact rqM (hR.g (by omega)) (by omega) (fun _ => mqT hR (by decide) g) fun z => rqN (m := 63) rfl (by omega) (fun _ => mqT hR (by decide) g) fun z2 => absurd ⟨z, z2⟩ hv
