/-! wood -/
theorem M_wood {d Ln c s : Nat} {I : Nat → Nat → Int32} {L : Nat → Nat → Int64} {K : Int32 → (Nat → Nat → Int32) → (Nat → Nat → Int64) → Prop} {tp : Nat → Nat} {tl : Nat} {w : Nat → Nat} (hd : 50 ≤ d) (hS : STR I) (hl : tl ≤ 400) (h9 : I 148 9 = nI tl) (hx : TXm tp I) (h6 : ∀ j, tp j < 256) (hR : RM w I) (hg : GOOD w) (kf : ∀ f, rdA tp tl w = .inl f → ∀ I', RM w I' → I' 148 0 = 1 → I' 148 9 = 0 → I' 148 14 = nI f → FR 148 [149, 151] [0, 9, 10, 11, 12, 14, 16] I I' → K 0 I' L) (k2 : ∀ w', rdA tp tl w = .inr w' → w 2 = 12 → ∀ I', RM w I' → I' 148 0 = 2 → I' 148 9 = 0 → I' 148 14 = -1 → FR 148 [149, 151] [0, 9, 10, 11, 12, 14, 16] I I' → K 0 I' L) (kt : ∀ w', rdA tp tl w = .inr w' → ¬ w 2 = 12 → ∀ I', RM (upw w' 2 (w 2 + 1)) I' → I' 148 0 = 0 → I' 148 9 = 0 → I' 148 14 = -1 → I' 148 7 = 0 → FR 148 [149, 151] [0, 7, 9, 10, 11, 12, 14, 16] I I' → K (nI (w 2 + 1)) I' L) : dd_Ev d m_X11_wood [.ref 148] (sM Ln I L c s) (dd_RI Ln c s K) := by
  have w2 := hg.1.1.2.2.1
  refine w_X11_wood_0 (by omega) ?_
  have back : ∀ (J : Nat → Nat → Int32) (x1 : Int32), (∀ j, j < 1371 → J 151 j = nI (w j)) → (∀ g, RM w (dd_u J 149 g) → K 0 (dd_u J 149 g) L) → dd_Rn d m_X11_wood (92, [.ref 148, .int x1, .int (nI 0)], [], sM Ln J L c s) (dd_RI Ln c s K) := by
    intro J x1 h51 kk
    have key : ∀ g, (∀ j, j < 0 → g j = nI (w j)) → dd_Rn d m_X11_wood (92, [.ref 148, .int x1, .int (nI 0)], [], sM Ln (dd_u J 149 g) L c s) (dd_RI Ln c s K) := by
      refine dd_lp (fun i => ∀ g, (∀ j, j < i → g j = nI (w j)) → dd_Rn d m_X11_wood (92, [.ref 148, .int x1, .int (nI i)], [], sM Ln (dd_u J 149 g) L c s) (dd_RI Ln c s K)) 1371 ?_ ?_
      · intro g hg
        refine w_X11_wood_92 (by omega) ?_
        rw [li_1371, nI_leI (by omega) (by omega)]
        exact ⟨fun _ => dd_qi (kk g (RM.set hg)), fun z => absurd (Nat.le_refl _) z⟩
      · intro i hi ih g hg
        refine w_X11_wood_92 (by omega) ?_
        have ti : tn (nI i) = i := nI_clamp (by omega)
        rw [li_1371, nI_leI (by omega) (by omega), ti, nI_1, dd_us, dd_u_u, dd_un (show (151 : Nat) ≠ 149 by decide), h51 i hi]
        refine ⟨fun z => absurd z (by omega), fun _ => ⟨⟨nI_pos' (by omega), by omega⟩, ⟨nI_pos' (by omega), by omega⟩, ih _ (fun j hj => ?_)⟩⟩
        by_cases e : j = i
        · subst e; rw [pk_us]
        · rw [pk_un e]; exact hg j (by omega)
    have := key (J 149) (fun j hj => absurd hj (Nat.not_lt_zero j))
    rw [dd_u_id] at this
    exact this
  have key : ∀ f, (∀ j, j < 0 → f j = nI (w j)) → dd_Rn d m_X11_wood (2, [.ref 148, .int (nI 0), .null], [], sM Ln (dd_u I 151 f) L c s) (dd_RI Ln c s K) := by
    refine dd_lp (fun i => ∀ f, (∀ j, j < i → f j = nI (w j)) → dd_Rn d m_X11_wood (2, [.ref 148, .int (nI i), .null], [], sM Ln (dd_u I 151 f) L c s) (dd_RI Ln c s K)) 1371 ?_ ?_
    · intro f hf
      refine w_X11_wood_2 (by omega) ?_
      rw [li_1371, nI_leI (by omega) (by omega)]
      refine ⟨fun _ => ?_, fun z => absurd (Nat.le_refl _) z⟩
      have fJ : FR 148 [149, 151] BR I (dd_u I 151 f) := (FR.refl I).u (by decide) (by decide)
      have e51 : ∀ j, j < 1371 → dd_u I 151 f 151 j = nI (w j) := fun j hj => by rw [dd_us]; exact hf j hj
      have r0 : RM w (dd_u I 151 f) := hR.of (dd_un (by decide))
      have s0 : STR (dd_u I 151 f) := hS.of fun k hk => dd_un (by omega)
      have x0 : TXm tp (dd_u I 151 f) := fun j hj => by rw [dd_un (by decide)]; exact hx j hj
      have n0 : dd_u I 151 f 148 9 = nI tl := by rw [dd_un (by decide)]; exact h9
      generalize dd_u I 151 f = J at *
      refine M_woodLines (tp := tp) (tl := tl) (w := w) (by omega) s0 hl n0 x0 h6 r0 hg (fun q e I1 b12 b0 b9 f1 => ?_) (fun w' e n hn I1 rm b0 b9 f1 => ?_)
      · refine ⟨fun z => absurd z (by decide), fun _ => ⟨fun z => absurd z (by decide), fun _ => ?_⟩⟩
        simp only [dd_u_u]
        refine back _ _ (fun j hj => by rw [dd_un (by decide), f1.1 151 (by decide) (by decide)]; exact e51 j hj) fun g rg => ?_
        refine kf q e _ rg ?_ ?_ ?_ ?_
        · rw [dd_un (by decide), dd_us, pk_us]
        · rw [dd_un (by decide), dd_us, pk_un (by decide), pk_un (by decide)]; exact b9
        · rw [dd_un (by decide), dd_us, pk_un (by decide), pk_us]; exact b12
        · refine ((fJ.mono (fun _ q => q) (by decide)).trans ?_)
          have f2 : FR 148 [149, 151] [0, 9, 10, 11, 12, 14, 16] J I1 := f1.mono (by decide) (by decide)
          have f3 := (f2.v (j := 14) (v := I1 148 12) (by decide)).v (j := 0) (v := 1) (by decide)
          rw [dd_us, dd_u_u] at f3
          exact f3.u (by decide) (by decide)
      · have ok := rdA_ok hg e
        have e2 : I1 149 2 = nI (w 2) := by rw [rm.g (by omega), ok.2.2]
        rw [e2, li_12, nI_eq (by omega) (by omega), nI_1]
        refine ⟨fun _ => ⟨fun _ => ⟨fun z => ?_, fun z => ?_⟩, fun z => absurd (nI_pos' (by omega)) z⟩, fun z => absurd (nI_pos' (by omega)) z⟩
        · simp only [dd_u_u]
          refine back _ _ (fun j hj => by rw [dd_un (by decide), f1.1 151 (by decide) (by decide)]; exact e51 j hj) fun g rg => ?_
          refine k2 w' e z _ rg ?_ ?_ ?_ ?_
          · rw [dd_un (by decide), dd_us, pk_us]
          · rw [dd_un (by decide), dd_us, pk_un (by decide), pk_un (by decide)]; exact b9
          · rw [dd_un (by decide), dd_us, pk_un (by decide), pk_us]
          · refine ((fJ.mono (fun _ q => q) (by decide)).trans ?_)
            have f2 : FR 148 [149, 151] [0, 9, 10, 11, 12, 14, 16] J I1 := f1.mono (by decide) (by decide)
            have f3 := (f2.v (j := 14) (v := -1) (by decide)).v (j := 0) (v := 2) (by decide)
            rw [dd_us, dd_u_u] at f3
            exact f3.u (by decide) (by decide)
        · refine dd_qi (kt w' e z _ ?_ ?_ ?_ ?_ ?_ ?_)
          · refine (RM.set (I := I1) (nu rm 2 (w 2 + 1))).of ?_
            rw [dd_un (by decide), dd_us, dd_us]
          · rw [dd_us, pk_un (by decide), pk_un (by decide)]; exact b0
          · rw [dd_us, pk_un (by decide), pk_un (by decide)]; exact b9
          · rw [dd_us, pk_un (by decide), pk_us]
          · rw [dd_us, pk_us]
          · refine ((fJ.mono (fun _ q => q) (by decide)).trans ?_)
            have f2 : FR 148 [149, 151] [0, 7, 9, 10, 11, 12, 14, 16] J I1 := f1.mono (by decide) (by decide)
            have f3 := f2.v (j := 14) (v := -1) (by decide)
            have f4 := f3.u (k := 149) (f := upd (I1 149) 2 (nI (w 2 + 1))) (by decide) (by decide)
            have f5 := f4.v (j := 7) (v := 0) (by decide)
            rw [dd_un (show (148 : Nat) ≠ 149 by decide), dd_us] at f5
            exact f5
    · intro i hi ih f hf
      refine w_X11_wood_2 (by omega) ?_
      have ti : tn (nI i) = i := nI_clamp (by omega)
      rw [li_1371, nI_leI (by omega) (by omega), ti, nI_1, dd_us, dd_u_u, dd_un (show (149 : Nat) ≠ 151 by decide), hR.g hi]
      refine ⟨fun z => absurd z (by omega), fun _ => ⟨⟨nI_pos' (by omega), by omega⟩, ⟨nI_pos' (by omega), by omega⟩, ih _ (fun j hj => ?_)⟩⟩
      by_cases e : j = i
      · subst e; rw [pk_us]
      · rw [pk_un e]; exact hf j (by omega)
  have := key (I 151) (fun j hj => absurd hj (Nat.not_lt_zero j))
  rw [dd_u_id] at this
  exact this
/-- the invariant behind a text -/
theorem INV.text {I0 : Nat → Nat → Int32} {w w' : Nat → Nat} {im : Option (Nat → Nat)} {na na' od : Nat} {A : Nat → Nat → Nat} {tp : Nat → Nat} {tl : Nat} {fa fa' : Option Nat} {I I' : Nat → Nat → Int32} {L L' : Nat → Nat → Int64} (h : INV I0 w im na od A tp tl fa I L) (g : GOOD w') (r : RM w' I') (rc : RC w' I' L') (rl : RLw w' I') (ha : na' = 0 ∨ (na' = na ∧ sameL w w')) (f : ∀ k, ((17 ≤ k ∧ k < 25) ∨ (29 ≤ k ∧ k < 130 ∧ k ≠ 31) ∨ k = 150 ∨ k = 153 ∨ k = 154 ∨ 163 ≤ k) → I' k = I k) (f06 : I' 0 6 = I 0 6) (f09 : I' 0 9 = 0) (f010 : I' 0 10 = oI fa') (f311 : I' 31 1 = I 31 1) (f312 : I' 31 2 = nI na') (f6 : I' 148 6 = I 148 6) (f7 : I' 148 7 = nI na') (f9 : I' 148 9 = 0) (f14 : I' 148 14 = oI fa') (fL : ∀ k, 17 ≤ k → k < 129 → L' k = L k) : INV I0 w' im na' od A tp 0 fa' I' L' := by
  obtain ⟨h1, h2, h3, h4, ⟨i1, i2, i3⟩, ⟨a1, a2, a3, a4, a5, a6⟩, ⟨t1, t2, t3, t4, t5⟩, ⟨q1, q2⟩, h9⟩ := h
  refine ⟨g, r, rc, rl, ⟨?_, ?_, ?_⟩, ⟨by omega, a2, f7, f312, ?_, ?_⟩, ⟨by omega, t2, f9, f09, ?_⟩, ⟨f14, f010⟩, ?_⟩
  · rw [f6]; exact i1
  · rw [f06]; exact i2
  · intro wi hw
    obtain ⟨j1, j2, j3, j4⟩ := i3 wi hw
    refine ⟨j1, fun j hj => by rw [f 150 (by omega)]; exact j2 j hj, j3.of (fun j _ _ => f j (by omega)) (fL 17 (by omega) (by omega)), ?_⟩
    unfold RLk
    rw [f 29 (by omega), f (29 + 1) (by omega)]
    exact j4
  · rw [f311]; exact a5
  · intro i hi
    rcases ha with e | ⟨e, sl⟩
    · omega
    · obtain ⟨j1, j2, j3, j4⟩ := a6 i (by omega)
      exact ⟨j1, sl.symm.trans j2, fun j hj => by rw [f 153 (by omega)]; exact j3 j hj, j4.of (fun j _ _ => f j (by omega)) (fL _ (by omega) (by omega))⟩
  · intro j hj
    rw [f 129 (by omega), f 154 (by omega)]
    exact t5 j hj
  · intro k hk
    rw [f k (by omega)]
    exact h9 k hk
theorem A_wood {d Ln c s : Nat} {I0 I : Nat → Nat → Int32} {L : Nat → Nat → Int64} {w : Nat → Nat} {im : Option (Nat → Nat)} {na od : Nat} {A : Nat → Nat → Nat} {tp : Nat → Nat} {tl : Nat} {fa : Option Nat} (hd : 60 ≤ d) (h : INV I0 w im na od A tp tl fa I L) (hS0 : STR I0) : PW d m_L_wood [.ref 0, .ref 163] m_X11_wood [.ref 148] I0 Ln c s I L := by
  have hg := h.1
  have hO := h.1.1
  have hC := h.2.2.1
  have hR := h.2.1
  have hV := h.2.2.2.2.2.2.2.2
  have hS : STR I := hS0.of hV
  have w2 := hO.1.2.2.1
  have w9 := hO.1.2.2.2.2.2.2.2.2.1
  obtain ⟨a1, a2, a3, a4, a5, a6⟩ := h.2.2.2.2.2.1
  obtain ⟨t1, t2, t3, t4, t5⟩ := h.2.2.2.2.2.2.1
  intro G g
  refine w_L_wood_0 (by omega) ?_
  refine w_X10_wood_0 (by omega) ?_
  refine C_copyFrom (w := w) (by omega) (Or.inr ⟨rfl, Or.inl rfl⟩) hC w9 fun I1 L1 r1 f1 l1 => ?_
  rw [f1 0 (by omega), t4]
  have jk : ∀ k, k ≠ 0 → k < 9 ∨ 17 ≤ k → dd_u I1 0 (upd (I 0) 9 0) k = I k := fun k k0 hk => by rw [dd_un k0, f1 k (by omega)]
  have j9 : ∀ k, 9 ≤ k → dd_u I1 0 (upd (I 0) 9 0) k = I1 k := fun k hk => dd_un (by omega)
  have j0 : ∀ j, j ≠ 9 → dd_u I1 0 (upd (I 0) 9 0) 0 j = I 0 j := fun j hj => by rw [dd_us, pk_un hj]
  have j09 : dd_u I1 0 (upd (I 0) 9 0) 0 9 = 0 := by rw [dd_us, pk_us]
  generalize dd_u I1 0 (upd (I 0) 9 0) = J at *
  have hCJ : RC w J L1 := hC.of (fun j _ _ => jk j (by omega) (by omega)) (l1 1 (by omega))
  refine C_woodLines (tp := tp) (tl := tl) (w := w) (by omega) (hS.of fun k hk => jk k (by omega) (by omega)) t1 (fun j hj => by rw [jk 129 (by omega) (by omega)]; exact (t5 j hj).1) t2 hCJ hg (fun q e I2 L2 b5 f2 l2 => ?_) (fun w' e n hn I2 L2 rc b5 f2 l2 => ?_)
  · -- a wrong text
    refine ⟨fun _ => ?_, fun z => absurd rfl z⟩
    have r9 : RW w (dd_u I2 0 (upd (I2 0) 10 (I2 130 5))) L2 9 := r1.of (fun j h1 h2 => by rw [dd_un (by omega), f2 j (by omega) (by omega), j9 j (by omega)]) (l2 9 (by omega))
    refine C_copyFrom (w := w) (by omega) (Or.inl ⟨rfl, Or.inl rfl⟩) r9 w9 fun I3 L3 r3 f3 l3 => ?_
    refine dd_qX (Or.inl ⟨rfl, dd_qJt ?_⟩)
    have kk : ∀ k, (17 ≤ k ∧ k ≠ 130) → I3 k = I k := fun k hk => by rw [f3 k (by omega), dd_un (by omega), f2 k (by omega) (by omega), jk k (by omega) (by omega)]
    have k0 : ∀ j, I3 0 j = if j = 10 then nI q else if j = 9 then 0 else I 0 j := by
      intro j
      rw [f3 0 (by omega), dd_us, f2 0 (by omega) (by omega)]
      by_cases e1 : j = 10
      · subst e1; rw [pk_us, if_pos rfl]; exact b5
      · rw [pk_un e1, if_neg e1]
        by_cases e2 : j = 9
        · subst e2; rw [if_pos rfl]; exact j09
        · rw [if_neg e2]; exact j0 j e2
    refine ⟨fun k hk => by rw [kk k (by omega)]; exact hV k hk, ?_⟩
    refine M_wood (tp := tp) (tl := tl) (w := w) (by omega) (hS.of fun k hk => kk k (by omega)) t1 (by rw [kk 148 (by omega)]; exact t3) (fun j hj => by rw [kk 154 (by omega)]; exact (t5 j hj).2) t2 (hR.of (kk 149 (by omega))) hg (fun q2 e2 I4 r4 b0 b9 b14 f4 => ?_) (fun w' e2 _ I4 _ _ _ _ _ => by rw [e] at e2; cases e2) (fun w' e2 _ I4 _ _ _ _ _ _ => by rw [e] at e2; cases e2)
    rw [e] at e2
    cases e2
    refine g 1 0 I4 L3 (c + 1) (s + 6) (Or.inr ⟨rfl, rfl⟩) b0 (fun z => absurd z (by decide)) ⟨w, im, na, od, A, tp, 0, some q, ?_⟩
    have k4 : ∀ k, k ≠ 148 → k ≠ 149 → k ≠ 151 → I4 k = I3 k := fun k h1 h2 h3 => f4.1 k (by simp only [List.mem_cons, List.not_mem_nil, or_false]; omega) h1
    refine h.text hg r4 (r3.of (fun j _ _ => k4 j (by omega) (by omega) (by omega)) rfl) ?_ (Or.inr ⟨rfl, sameL.refl w⟩) (fun k hk => by rw [k4 k (by omega) (by omega) (by omega), kk k (by omega)]) ?_ ?_ ?_ ?_ ?_ ?_ ?_ b9 b14 (fun k h1 h2 => by rw [l3 k (by omega), l2 k (by omega), l1 k (by omega)])
    · exact h.2.2.2.1.of (by rw [k4 25 (by omega) (by omega) (by omega), kk 25 (by omega)]) (by rw [k4 25 (by omega) (by omega) (by omega), kk 25 (by omega)]) (by rw [k4 26 (by omega) (by omega) (by omega), kk 26 (by omega)])
    · rw [k4 0 (by omega) (by omega) (by omega), k0]; rfl
    · rw [k4 0 (by omega) (by omega) (by omega), k0]; rfl
    · rw [k4 0 (by omega) (by omega) (by omega), k0]; rfl
    · rw [k4 31 (by omega) (by omega) (by omega), kk 31 (by omega)]
    · rw [k4 31 (by omega) (by omega) (by omega), kk 31 (by omega)]; exact a4
    · rw [f4.2 6 (by decide), kk 148 (by omega)]
    · rw [f4.2 7 (by decide), kk 148 (by omega)]; exact a3
  · -- a text without a fault
    have ok := rdA_ok hg e
    refine ⟨fun z => absurd z (nmX (by omega)), fun _ => ?_⟩
    have e911 : I2 9 11 = nI (w 2) := by
      rw [f2 9 (by omega) (by omega), j9 9 (by omega)]
      exact r1.2.2.2.2.2.2.2.2.2.2.2.2.1
    have e111 : I2 1 11 = nI (w 2) := by rw [rc.texts, ok.2.2]
    rw [e911, e111, li_12, nI_ltI (by omega) (by omega), nI_1, b5]
    refine ⟨fun z => ?_, fun z => ?_⟩
    · refine dd_qT (dd_qJ ?_)
      have i2k : ∀ k, 17 ≤ k → k ≠ 130 → I2 k = I k := fun k h1 h2 => by rw [f2 k (by omega) h2, jk k (by omega) (by omega)]
      have kk : ∀ k, (17 ≤ k ∧ k ≠ 130 ∧ k ≠ 31) → dd_u (dd_u (dd_u I2 0 (upd (I2 0) 10 (-1))) 1 (upd (I2 1) 11 (nI (w 2 + 1)))) 31 (upd (I2 31) 2 0) k = I k := fun k hk => by rw [dd_un (by omega), dd_un (by omega), dd_un (by omega), i2k k (by omega) (by omega)]
      have k31 : ∀ j, j ≠ 2 → dd_u (dd_u (dd_u I2 0 (upd (I2 0) 10 (-1))) 1 (upd (I2 1) 11 (nI (w 2 + 1)))) 31 (upd (I2 31) 2 0) 31 j = I 31 j := fun j hj => by rw [dd_us, pk_un hj, i2k 31 (by omega) (by omega)]
      have k312 : dd_u (dd_u (dd_u I2 0 (upd (I2 0) 10 (-1))) 1 (upd (I2 1) 11 (nI (w 2 + 1)))) 31 (upd (I2 31) 2 0) 31 2 = 0 := by rw [dd_us, pk_us]
      have k0 : ∀ j, dd_u (dd_u (dd_u I2 0 (upd (I2 0) 10 (-1))) 1 (upd (I2 1) 11 (nI (w 2 + 1)))) 31 (upd (I2 31) 2 0) 0 j = if j = 10 then -1 else if j = 9 then 0 else I 0 j := by
        intro j
        rw [dd_un (by decide), dd_un (by decide), dd_us, f2 0 (by omega) (by omega)]
        by_cases e1 : j = 10
        · subst e1; rw [pk_us, if_pos rfl]
        · rw [pk_un e1, if_neg e1]
          by_cases e2 : j = 9
          · subst e2; rw [if_pos rfl]; exact j09
          · rw [if_neg e2]; exact j0 j e2
      have rc2 : RC (upw w' 2 (w 2 + 1)) (dd_u (dd_u (dd_u I2 0 (upd (I2 0) 10 (-1))) 1 (upd (I2 1) 11 (nI (w 2 + 1)))) 31 (upd (I2 31) 2 0)) L2 := by
        refine (rc.uTexts (v := w 2 + 1)).of (fun j h1 h2 => ?_) rfl
        rw [dd_un (by omega)]
        by_cases e1 : j = 1
        · subst e1; rw [dd_us, dd_us]
        · rw [dd_un e1, dd_un (by omega), dd_un e1]
      generalize dd_u (dd_u (dd_u I2 0 (upd (I2 0) 10 (-1))) 1 (upd (I2 1) 11 (nI (w 2 + 1)))) 31 (upd (I2 31) 2 0) = I3 at *
      refine ⟨fun k hk => by rw [kk k (by omega)]; exact hV k hk, ?_⟩
      refine M_wood (tp := tp) (tl := tl) (w := w) (by omega) (hS.of fun k hk => kk k (by omega)) t1 (by rw [kk 148 (by omega)]; exact t3) (fun j hj => by rw [kk 154 (by omega)]; exact (t5 j hj).2) t2 (hR.of (kk 149 (by omega))) hg (fun q2 e2 I4 r4 b0 b9 b14 f4 => by rw [e] at e2; cases e2) (fun w' _ z2 I4 _ _ _ _ _ => absurd z2 (by omega)) (fun w2' e2 _ I4 r4 b0 b9 b14 b7 f4 => ?_)
      rw [e] at e2
      cases e2
      refine g 0 (nI (w 2 + 1)) I4 _ c s (cs1r c s) b0 (fun _ => outL) ⟨upw w' 2 (w 2 + 1), im, 0, od, A, tp, 0, none, ?_⟩
      have k4 : ∀ k, k ≠ 148 → k ≠ 149 → k ≠ 151 → I4 k = I3 k := fun k h1 h2 h3 => f4.1 k (by simp only [List.mem_cons, List.not_mem_nil, or_false]; omega) h1
      have sl : sameL w (upw w' 2 (w 2 + 1)) := ok.2.1.trans (sameL_upw (by omega) (by omega))
      have oU : OKW (upw w' 2 (w 2 + 1)) := okW_s ok.1.1 (by omega) (by omega) (by omega)
      refine h.text (GOOD_up ok.1 oU (by omega) (by omega) (by omega) (by omega) (by omega) (fun b => by omega)) r4 (rc2.of (fun j _ _ => k4 j (by omega) (by omega) (by omega)) (dd_un (by omega))) ?_ (Or.inl rfl) (fun k hk => by rw [k4 k (by omega) (by omega) (by omega), kk k (by omega)]) ?_ ?_ ?_ ?_ ?_ ?_ ?_ b9 b14 (fun k h1 h2 => by rw [dd_un (by omega), l2 k (by omega), l1 k (by omega)])
      · exact (h.2.2.2.1.of (by rw [k4 25 (by omega) (by omega) (by omega), kk 25 (by omega)]) (by rw [k4 25 (by omega) (by omega) (by omega), kk 25 (by omega)]) (by rw [k4 26 (by omega) (by omega) (by omega), kk 26 (by omega)])).cong sl
      · rw [k4 0 (by omega) (by omega) (by omega), k0]; rfl
      · rw [k4 0 (by omega) (by omega) (by omega), k0]; rfl
      · rw [k4 0 (by omega) (by omega) (by omega), k0]; rfl
      · rw [k4 31 (by omega) (by omega) (by omega), k31 1 (by decide)]
      · rw [k4 31 (by omega) (by omega) (by omega), k312]; rfl
      · rw [f4.2 6 (by decide), kk 148 (by omega)]
      · exact b7
    · -- twelve texts
      have r9 : RW w (dd_u I2 0 (upd (I2 0) 10 (-1))) L2 9 := r1.of (fun j h1 h2 => by rw [dd_un (by omega), f2 j (by omega) (by omega), j9 j (by omega)]) (l2 9 (by omega))
      refine C_copyFrom (w := w) (by omega) (Or.inl ⟨rfl, Or.inl rfl⟩) r9 w9 fun I3 L3 r3 f3 l3 => ?_
      refine dd_qX (Or.inr ⟨rfl, dd_qJt ?_⟩)
      have kk : ∀ k, (17 ≤ k ∧ k ≠ 130) → I3 k = I k := fun k hk => by rw [f3 k (by omega), dd_un (by omega), f2 k (by omega) (by omega), jk k (by omega) (by omega)]
      have k0 : ∀ j, I3 0 j = if j = 10 then -1 else if j = 9 then 0 else I 0 j := by
        intro j
        rw [f3 0 (by omega), dd_us, f2 0 (by omega) (by omega)]
        by_cases e1 : j = 10
        · subst e1; rw [pk_us, if_pos rfl]
        · rw [pk_un e1, if_neg e1]
          by_cases e2 : j = 9
          · subst e2; rw [if_pos rfl]; exact j09
          · rw [if_neg e2]; exact j0 j e2
      refine ⟨fun k hk => by rw [kk k (by omega)]; exact hV k hk, ?_⟩
      refine M_wood (tp := tp) (tl := tl) (w := w) (by omega) (hS.of fun k hk => kk k (by omega)) t1 (by rw [kk 148 (by omega)]; exact t3) (fun j hj => by rw [kk 154 (by omega)]; exact (t5 j hj).2) t2 (hR.of (kk 149 (by omega))) hg (fun q2 e2 I4 r4 b0 b9 b14 f4 => by rw [e] at e2; cases e2) (fun w2' e2 _ I4 r4 b0 b9 b14 f4 => ?_) (fun w' _ z2 I4 _ _ _ _ _ _ => absurd (by omega) z2)
      refine g 2 0 I4 L3 (c + 1) (s + 6) (Or.inr ⟨rfl, rfl⟩) b0 (fun z => absurd z (by decide)) ⟨w, im, na, od, A, tp, 0, none, ?_⟩
      have k4 : ∀ k, k ≠ 148 → k ≠ 149 → k ≠ 151 → I4 k = I3 k := fun k h1 h2 h3 => f4.1 k (by simp only [List.mem_cons, List.not_mem_nil, or_false]; omega) h1
      refine h.text hg r4 (r3.of (fun j _ _ => k4 j (by omega) (by omega) (by omega)) rfl) ?_ (Or.inr ⟨rfl, sameL.refl w⟩) (fun k hk => by rw [k4 k (by omega) (by omega) (by omega), kk k (by omega)]) ?_ ?_ ?_ ?_ ?_ ?_ ?_ b9 b14 (fun k h1 h2 => by rw [l3 k (by omega), l2 k (by omega), l1 k (by omega)])
      · exact h.2.2.2.1.of (by rw [k4 25 (by omega) (by omega) (by omega), kk 25 (by omega)]) (by rw [k4 25 (by omega) (by omega) (by omega), kk 25 (by omega)]) (by rw [k4 26 (by omega) (by omega) (by omega), kk 26 (by omega)])
      · rw [k4 0 (by omega) (by omega) (by omega), k0]; rfl
      · rw [k4 0 (by omega) (by omega) (by omega), k0]; rfl
      · rw [k4 0 (by omega) (by omega) (by omega), k0]; rfl
      · rw [k4 31 (by omega) (by omega) (by omega), kk 31 (by omega)]
      · rw [k4 31 (by omega) (by omega) (by omega), kk 31 (by omega)]; exact a4
      · rw [f4.2 6 (by decide), kk 148 (by omega)]
      · rw [f4.2 7 (by decide), kk 148 (by omega)]; exact a3
