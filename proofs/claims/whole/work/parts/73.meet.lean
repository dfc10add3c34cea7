/-! Questions: meet, mends -/
theorem RV.keep {k k' num part ear bad beat loud : Nat} {row : Nat → Nat} {cell fire : Nat} {I I' : Nat → Nat → Int32} (h : RV k' num part ear bad beat loud row cell fire I) (hk : (k = 133 ∧ k' = 136) ∨ (k = 136 ∧ k' = 133)) (f : FV k I I') : RV k' num part ear bad beat loud row cell fire I' := by
  have n0 : k' ∉ [k, k + 1, k + 2] := by simp only [List.mem_cons, List.not_mem_nil, or_false]; omega
  have n1 : k' + 1 ∉ [k, k + 1, k + 2] := by simp only [List.mem_cons, List.not_mem_nil, or_false]; omega
  have n2 : k' + 2 ∉ [k, k + 1, k + 2] := by simp only [List.mem_cons, List.not_mem_nil, or_false]; omega
  unfold RV RVq at *
  rw [f.1 k' n0 (by omega), f.1 (k' + 1) n1 (by omega), f.1 (k' + 2) n2 (by omega)]
  exact h
abbrev FVV (I I' : Nat → Nat → Int32) : Prop := FR 25 [133, 134, 135, 136, 137, 138] [3, 4] I I'
theorem FVV.a {I I' : Nat → Nat → Int32} (h : FV 133 I I') : FVV I I' := h.mono (by decide) (by decide)
theorem FVV.b {I I' : Nat → Nat → Int32} (h : FV 136 I I') : FVV I I' := h.mono (by decide) (by decide)
theorem A_meet {d Ln c s : Nat} {I0 I : Nat → Nat → Int32} {L : Nat → Nat → Int64} {w : Nat → Nat} {im : Option (Nat → Nat)} {na od : Nat} {A : Nat → Nat → Nat} {tp : Nat → Nat} {tl : Nat} {fa : Option Nat} (hd : 60 ≤ d) (h : INV I0 w im na od A tp tl fa I L) (a a2 : Int32) : PW d m_L_meet [.ref 0, .int a, .int a2, .ref 163] m_X11_meet [.ref 148, .int a, .int a2] I0 Ln c s I L := by
  have hO := h.1.1
  have hi := h.1.2.1
  have w1 := hO.1.2.1
  have w7 := hO.1.2.2.2.2.2.2.1
  have hC := h.2.2.1
  have hka : (133 : Nat) = 133 ∨ (133 : Nat) = 136 := Or.inl rfl
  have hkb : (136 : Nat) = 133 ∨ (136 : Nat) = 136 := Or.inr rfl
  by_cases hv : vld a (w 1) ∧ vld a2 (w 1)
  · obtain ⟨x, hx, rfl⟩ := vld_i (by omega) hv.1
    obtain ⟨y, hy, rfl⟩ := vld_i (by omega) hv.2
    by_cases hxy : x = y
    · subst hxy
      refine PW.q h _ 0 (WR2 (e1 := 2) (e2 := 0) (o := some 0) (w_L_meet_0 (by omega)) (by decide) (Or.inr (Or.inr rfl)) ?_) ?_
      · intro K T g1 g2
        exact w_X10_meet_0 (by omega) (rqC hC.boys (fun z => absurd hv.1 z) fun _ => rqC hC.boys (fun z => absurd hv.2 z) fun _ => ⟨fun _ => dd_qX (g2 0 rfl), fun z => absurd rfl z⟩)
      · intro I1 L1 c1 s1 h1 K g
        have hR := h1.2.1
        refine w_X11_meet_0 (by omega) ?_
        simp only [dd_u_u, upd_uu]
        exact rqM (hR.g (by omega)) (by omega) (fun z => absurd hv.1 z) fun _ => rqM (hR.g (by omega)) (by omega) (fun z => absurd hv.2 z) fun _ => ⟨fun _ => mqT hR (by decide) g, fun z => absurd trivial z⟩
    · have ne : ¬ nI x = nI y := fun z => hxy ((nI_eq (by omega) (by omega)).mp z)
      obtain ⟨_, x1, x2, x3, x4, x5⟩ := hO.2.2.2.1 x (by omega)
      obtain ⟨_, y1, y2, y3, y4, y5⟩ := hO.2.2.2.1 y (by omega)
      refine PW.q h _ (oI (frst (fun n => decide (wkB w x n = wkB w y n)) 101)) (WR2 (e1 := 2) (e2 := 0) (o := none) (w_L_meet_0 (by omega)) (by decide) (Or.inl rfl) ?_) ?_
      · intro K T g1 g2
        refine w_X10_meet_0 (by omega) (rqC hC.boys (fun z => absurd hv.1 z) fun _ => rqC hC.boys (fun z => absurd hv.2 z) fun _ => ⟨fun z => absurd z ne, fun _ => ?_⟩)
        refine C_follow (by omega) hka hC hO (by omega) fun I1 v1 f1 => ?_
        refine C_follow (by omega) hkb (hC.fr f1 (kA hka)) hO (by omega) fun I2 v2 f2 => ?_
        have key : ∀ I', RV 133 x (w (187 + 5 * x + 1)) (w (187 + 5 * x + 2)) (w (187 + 5 * x + 4)) ((w 7 + 0) % 8) (w 5) (prow w (w (187 + 5 * x + 1))) (wkB w x 0) (w 4) I' → RV 136 y (w (187 + 5 * y + 1)) (w (187 + 5 * y + 2)) (w (187 + 5 * y + 4)) ((w 7 + 0) % 8) (w 5) (prow w (w (187 + 5 * y + 1))) (wkB w y 0) (w 4) I' → FVV I I' → (∀ m, m < 0 → ¬ wkB w x m = wkB w y m) → dd_Rn (d - 1) m_X10_meet (34, [.ref 0, .int (nI x), .int (nI y), .int (nI 0)], [], sM Ln I' L c s) (dd_TI Ln c s K T) := by
          refine dd_lp (fun i => ∀ I', RV 133 x (w (187 + 5 * x + 1)) (w (187 + 5 * x + 2)) (w (187 + 5 * x + 4)) ((w 7 + i) % 8) (w 5) (prow w (w (187 + 5 * x + 1))) (wkB w x i) (w 4) I' → RV 136 y (w (187 + 5 * y + 1)) (w (187 + 5 * y + 2)) (w (187 + 5 * y + 4)) ((w 7 + i) % 8) (w 5) (prow w (w (187 + 5 * y + 1))) (wkB w y i) (w 4) I' → FVV I I' → (∀ m, m < i → ¬ wkB w x m = wkB w y m) → dd_Rn (d - 1) m_X10_meet (34, [.ref 0, .int (nI x), .int (nI y), .int (nI i)], [], sM Ln I' L c s) (dd_TI Ln c s K T)) 101 ?_ ?_
          · intro I3 va vb f3 nf
            refine w_X10_meet_34 (by omega) ?_
            rw [li_100, nI_ltI (by omega) (by omega)]
            rw [frst_none (fun i hi => decide_eq_false (nf i hi))] at g1
            exact ⟨fun _ => dd_qT (g1 rfl I3 L (FC.fr f3 (by decide))), fun z => absurd (by omega) z⟩
          · intro i hi' ih I3 va vb f3 nf
            have xl : wkB w x i < 64 := wk_lt (w := w) (num := x) (part := w (187 + 5 * x + 1)) (ear := w (187 + 5 * x + 2)) (bad := w (187 + 5 * x + 4)) (loud := w 5) (row := prow w (w (187 + 5 * x + 1))) (t0 := w 7) x1 i
            have yl : wkB w y i < 64 := wk_lt (w := w) (num := y) (part := w (187 + 5 * y + 1)) (ear := w (187 + 5 * y + 2)) (bad := w (187 + 5 * y + 4)) (loud := w 5) (row := prow w (w (187 + 5 * y + 1))) (t0 := w 7) y1 i
            have cx : I3 133 4 = nI (wkB w x i) := va.2.2.2.2
            have cy : I3 136 4 = nI (wkB w y i) := vb.2.2.2.2
            have hC3 : RC w I3 L := hC.fr f3 (fun j h1 h2 => by simp only [List.mem_cons, List.not_mem_nil, or_false]; omega)
            have hL3 : RLw w I3 := h.2.2.2.1.fr f3 (by decide)
            refine w_X10_meet_34 (by omega) ?_
            rw [li_100, nI_ltI (by omega) (by omega), cx, cy, nI_eq (by omega) (by omega), nI_1]
            refine ⟨fun z => absurd z (by omega), fun _ => ⟨fun q => ?_, fun q => ?_⟩⟩
            · rw [frst_some (p := fun n => decide (wkB w x n = wkB w y n)) (decide_eq_true q) (fun m hm => decide_eq_false (nf m hm)) hi'] at g1
              exact dd_qT (g1 rfl I3 L (FC.fr f3 (by decide)))
            · refine C_beatAhead (by omega) hka hC3 hO hL3 va (by omega) x2 x3 x5 (by omega) hO.1.2.2.2.2.1 xl (fun j hj => hO.2.2.1 _ x2 j hj) fun I4 va4 f4 => ?_
              have vb4 := vb.keep (Or.inl ⟨rfl, rfl⟩) f4
              refine C_beatAhead (by omega) hkb (hC3.fr f4 (kA hka)) hO (hL3.fr f4 (kA26 hka)) vb4 (by omega) y2 y3 y5 (by omega) hO.1.2.2.2.2.1 yl (fun j hj => hO.2.2.1 _ y2 j hj) fun I5 vb5 f5 => ?_
              have va5 := va4.keep (Or.inr ⟨rfl, rfl⟩) f5
              rw [show ((w 7 + i) % 8 + 1) % 8 = (w 7 + (i + 1)) % 8 by omega] at va5 vb5
              exact ih I5 va5 vb5 ((f3.trans (FVV.a f4)).trans (FVV.b f5)) (lt_s nf q)
        have v1' := v1.keep (Or.inr ⟨rfl, rfl⟩) f2
        refine key I2 ?_ ?_ ((FVV.a f1).trans (FVV.b f2)) (fun m hm => absurd hm (Nat.not_lt_zero m))
        · rw [show (w 7 + 0) % 8 = w 7 by omega]; exact v1'
        · rw [show (w 7 + 0) % 8 = w 7 by omega]; exact v2
      · intro I1 L1 c1 s1 h1 K g
        have hR := h1.2.1
        refine w_X11_meet_0 (by omega) (rqM (hR.g (by omega)) (by omega) (fun z => absurd hv.1 z) fun _ => rqM (hR.g (by omega)) (by omega) (fun z => absurd hv.2 z) fun _ => ⟨fun z => absurd z ne, fun _ => ?_⟩)
        have fj := FM.th I1 0
        have t0 := thr0 (I := I1) (v := 0)
        have hR1 : RM w (dd_u I1 148 (upd (I1 148) 0 0)) := hR.of (dd_un (by decide))
        generalize dd_u I1 148 (upd (I1 148) 0 0) = J at *
        refine M_keepsAll (w := w) (by omega) hR1 fun f hf => ?_
        have hR2 : RM w (dd_u J 152 f) := hR1.of (dd_un (by decide))
        have fB : FB J (dd_u J 152 f) := (FR.refl J).u (by decide) (by decide)
        have hT : ∀ j, j < 522 → dd_u J 152 f 152 j = nI (w j) := fun j hj => by rw [dd_us]; exact hf j hj
        generalize dd_u J 152 f = N at *
        have fin : ∀ n I' (v : Int32), RM (goA true w n).1 I' → FW N I' → v = oI (frst (fun n => decide (wkB w x n = wkB w y n)) 101) → dd_Ev (d - 1) m_X11_bringsBack [.ref 148] (sM Ln I' L1 c1 s1) (dd_RV Ln c1 s1 (fun I4 L4 => dd_RI Ln c1 s1 K (none, .int v, sM Ln I4 L4 c1 s1))) := by
          intro n I' v r f' e
          have s1 := (goA_ok hO (cm := true) n).2
          refine M_bringsBack (w0 := w) (by omega) r (fun j hj => by rw [f'.1 152 (by decide) (by decide)]; exact hT j hj) (fun j hj => s1 j (by omega)) fun g' r1 => ?_
          have F : FB J (dd_u I' 149 g') := (fB.trans (f'.mono (by decide) (by decide))).u (by decide) (by decide)
          exact mqJ r1 (fj.trans (FM.b F)) (by rw [F.2 0 (by decide)]; exact t0) e g
        have key : ∀ I', RM (goA true w 0).1 I' → FW N I' → (∀ m, m < 0 → ¬ wkB w x m = wkB w y m) → dd_Rn d m_X11_meet (63, [.ref 148, .int (nI x), .int (nI y), .int (-1), .int (nI 0)], [], sM Ln I' L1 c1 s1) (dd_RI Ln c1 s1 K) := by
          refine dd_lp (fun i => ∀ I', RM (goA true w i).1 I' → FW N I' → (∀ m, m < i → ¬ wkB w x m = wkB w y m) → dd_Rn d m_X11_meet (63, [.ref 148, .int (nI x), .int (nI y), .int (-1), .int (nI i)], [], sM Ln I' L1 c1 s1) (dd_RI Ln c1 s1 K)) 101 ?_ ?_
          · intro I3 r3 f3 nf
            refine w_X11_meet_63 (by omega) ?_
            rw [li_100, nI_ltI (by omega) (by omega)]
            exact ⟨fun _ => fin 101 I3 _ r3 f3 (by rw [frst_none (fun i hi => decide_eq_false (nf i hi))]; rfl), fun z => absurd (by omega) z⟩
          · intro i hi' ih I3 r3 f3 nf
            obtain ⟨o3, s3⟩ := goA_ok hO (cm := true) i
            obtain ⟨c1', _, c3, _⟩ := calm hO hi i
            have xl := (o3.2.2.2.1 x (by omega)).2.1
            have yl := (o3.2.2.2.1 y (by omega)).2.1
            have ex : tn ((187 : Int32) + (5 : Int32) * nI x + 0) = 187 + 5 * x := by
              rw [li_187, li_5, pk_mul, nI_add, Int32.add_zero]
              exact nI_clamp (by omega)
            have ex0 : 0 ≤ (187 : Int32) + (5 : Int32) * nI x + 0 := by
              rw [li_187, li_5, pk_mul, nI_add, Int32.add_zero]
              exact nI_pos' (by omega)
            have ey : tn ((187 : Int32) + (5 : Int32) * nI y + 0) = 187 + 5 * y := by
              rw [li_187, li_5, pk_mul, nI_add, Int32.add_zero]
              exact nI_clamp (by omega)
            have ey0 : 0 ≤ (187 : Int32) + (5 : Int32) * nI y + 0 := by
              rw [li_187, li_5, pk_mul, nI_add, Int32.add_zero]
              exact nI_pos' (by omega)
            refine w_X11_meet_63 (by omega) ?_
            rw [li_100, nI_ltI (by omega) (by omega), ex, ey, r3.g (by omega), r3.g (by omega), nI_eq (by omega) (by omega), c3 x hx, c3 y hy, nI_1]
            refine ⟨fun z => absurd z (by omega), fun _ => ⟨fun _ => ⟨⟨ex0, by omega⟩, ⟨ey0, by omega⟩, fun q => ?_, fun q => ?_⟩, fun z => absurd rfl z⟩⟩
            · refine M_oneBeat (cm := true) (by omega) r3 o3 fun I4 r4 f4 => ?_
              have f34 := f3.trans f4
              have e : nI i = oI (frst (fun n => decide (wkB w x n = wkB w y n)) 101) := by
                rw [frst_some (p := fun n => decide (wkB w x n = wkB w y n)) (decide_eq_true q) (fun m hm => decide_eq_false (nf m hm)) hi']
                rfl
              have nei : ¬ nI i = -1 := fun z => by
                have e : (nI i = -1) = False := nI_nm (by omega)
                exact (e ▸ z : False)
              refine w_X11_meet_63 (by omega) ⟨fun _ => fin (i + 1) I4 _ r4 f34 e, fun _ => ⟨fun z => absurd z nei, fun _ => fin (i + 1) I4 _ r4 f34 e⟩⟩
            · refine M_oneBeat (cm := true) (by omega) r3 o3 fun I4 r4 f4 => ?_
              exact ih I4 r4 (f3.trans f4) (lt_s nf q)
        exact key N hR2 (FR.refl N) (fun m hm => absurd hm (Nat.not_lt_zero m))
  · refine PW.q h _ 0 (WR2 (e1 := 2) (e2 := 0) (o := some 2) (w_L_meet_0 (by omega)) (by decide) (Or.inr (Or.inl rfl)) ?_) ?_
    · intro K T g1 g2
      exact w_X10_meet_0 (by omega) (rqC hC.boys (fun _ => dd_qX (g2 2 rfl)) fun z => rqC hC.boys (fun _ => dd_qX (g2 2 rfl)) fun z2 => absurd ⟨z, z2⟩ hv)
    · intro I1 L1 c1 s1 h1 K g
      have hR := h1.2.1
      refine w_X11_meet_0 (by omega) ?_
      simp only [dd_u_u, upd_uu]
      exact rqM (hR.g (by omega)) (by omega) (fun _ => mqT hR (by decide) g) fun z => rqM (hR.g (by omega)) (by omega) (fun _ => mqT hR (by decide) g) fun z2 => absurd ⟨z, z2⟩ hv
