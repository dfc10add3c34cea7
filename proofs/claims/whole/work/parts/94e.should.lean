/-! should, splits -/
abbrev alY (w : Nat → Nat) : Nat → Bool := fun y => anyN (lsB w) (w 1) && (opn w y && alA w y (w 1))
theorem lsB_t {w : Nat → Nat} {b : Nat} : lsB w b = true ↔ ¬ w (187 + 5 * b + 3) = 1 := by
  unfold lsB
  rw [Bool.not_eq_true', decide_eq_false_iff_not]
theorem outV_0 {w : Nat → Nat} {v : Int32} (h1 : w 1 ≤ 6) (hv : outV w v) : v = 0 ↔ anyN (lsB w) (w 1) = false := by
  rw [anyN_no]
  constructor
  · intro z b hb
    have := hv b (by omega)
    rw [z, bX_0, decide_eq_true hb, Bool.true_and] at this
    unfold lsB
    exact this.symm
  · intro z
    refine bX_ext fun i hi => ?_
    rw [hv i hi, bX_0]
    by_cases q : i < w 1
    · have := z i q
      unfold lsB at this
      rw [this, Bool.and_false]
    · rw [decide_eq_false q, Bool.false_and]
theorem C_least {d Ln c s : Nat} {I : Nat → Nat → Int32} {L : Nat → Nat → Int64} {K : Int32 → (Nat → Nat → Int32) → (Nat → Nat → Int64) → Prop} {w : Nat → Nat} (hd : 31 ≤ d) (hC : RC w I L) (hO : OKW w) (kk : ∀ I', FR 25 [140] [] I I' → K (oI (mnO (alY w) (fun y => tgA w y (w 1)) 64)) I' L) : dd_Ev d m_X7_leastTogether [.ref 139] (sM Ln I L c s) (dd_RI Ln c s K) := by
  have w1 := hO.1.2.1
  have ho : ∀ i, i < 64 → bL (L 1 0 ^^^ Int64.ofNat 18446744073709551615) i = opn w i := by
    intro i hi
    rw [bL_not _ hi, hC.tree hi]
    unfold opn
    rw [decide_eq_true hi, Bool.true_and]
  refine w_X7_leastTogether_0 (by omega) ?_
  refine w_X8_lostBoys_0 (by omega) (dd_qi ?_)
  rw [hC.boys, outV_0 w1 (hC.outV w1)]
  have last : ∀ (a : Int64) (I2 : Nat → Nat → Int32), FR 25 [140] [] I I2 → (∀ y, y < 64 → bL a y = alY w y) → (∀ y, y < 64 → I2 140 y = nI (tgA w y (w 1))) → dd_Rn d m_X7_leastTogether (108, [.ref 139, .long a, .null, .int (-1), .int 0, .null], [], sM Ln I2 L c s) (dd_RI Ln c s K) := by
    intro a I2 f2 ha hT
    have key : ∀ a5, dd_Rn d m_X7_leastTogether (108, [.ref 139, .long a, .null, .int (oI (mnO (alY w) (fun y => tgA w y (w 1)) 0)), .int (nI 0), a5], [], sM Ln I2 L c s) (dd_RI Ln c s K) := by
      refine dd_lp (fun i => ∀ a5, dd_Rn d m_X7_leastTogether (108, [.ref 139, .long a, .null, .int (oI (mnO (alY w) (fun y => tgA w y (w 1)) i)), .int (nI i), a5], [], sM Ln I2 L c s) (dd_RI Ln c s K)) 64 ?_ ?_
      · intro a5
        refine w_X7_leastTogether_108 (by omega) ?_
        rw [li_64, nI_leI (by omega) (by omega)]
        exact ⟨fun _ => dd_qi (kk I2 f2), fun z => absurd (Nat.le_refl _) z⟩
      · intro i hi ih a5
        have ti : tn (nI i) = i := nI_clamp (by omega)
        have b1 := tgA_le (w := w) (y := i) (w 1)
        refine w_X7_leastTogether_108 (by omega) ?_
        rw [li_64, nI_leI (by omega) (by omega), L_bit hi, ha i hi, ti, hT i hi]
        simp only [nI_1]
        refine ⟨fun z => absurd z (by omega), fun _ => ?_⟩
        have step : ∀ (o : Option Nat) (r : Int32) (u : Int32), mnO (alY w) (fun y => tgA w y (w 1)) (i + 1) = o → oI o = r → ∀ a5, dd_Rn d m_X7_leastTogether (108, [.ref 139, .long a, .null, .int r, .int (nI (i + 1)), a5], [], sM Ln I2 L c s) (dd_RI Ln c s K) := by
          intro o r u e1 e2 a5
          rw [e1, e2] at ih
          exact ih a5
        have tt : ¬ alY w i = false → alY w i = true := fun z => by
          cases hz : alY w i with
          | true => rfl
          | false => exact absurd hz z
        cases hm : mnO (alY w) (fun y => tgA w y (w 1)) i with
        | none =>
          refine ⟨fun _ => ⟨fun z => ?_, fun z => ?_⟩, fun z => absurd rfl z⟩
          · exact step _ _ 0 ((mnO_n (by rw [z]; decide)).trans hm) rfl _
          · exact step _ _ 0 (mnO_0 (tt z) hm) rfl _
        | some m =>
          have hml := mnO_lt hm
          have tm : tn (nI m) = m := nI_clamp (by omega)
          have b2 := tgA_le (w := w) (y := m) (w 1)
          have ne : ¬ oI (some m) = -1 := fun z => by
            have : (nI m = -1) = False := nI_nm (by omega)
            exact (this ▸ z : False)
          refine ⟨fun z => absurd z ne, fun _ => ?_⟩
          show ((0 ≤ nI i ∧ i < 64) ∧ (0 ≤ nI m ∧ tn (nI m) < 64) ∧ (I2 140 (tn (nI m)) ≤ nI (tgA w i (w 1)) → _) ∧ (¬ I2 140 (tn (nI m)) ≤ nI (tgA w i (w 1)) → _))
          rw [tm, hT m (by omega), nI_leI (by omega) (by omega)]
          refine ⟨⟨nI_pos' (by omega), by omega⟩, ⟨nI_pos' (by omega), by omega⟩, fun y => ⟨fun z => ?_, fun z => ?_⟩, fun y => ⟨fun z => ?_, fun z => ?_⟩⟩
          · exact step _ _ 0 ((mnO_n (by rw [z]; decide)).trans hm) rfl _
          · exact step _ _ 0 ((mnO_m (tt z) hm).trans (if_neg (by show ¬ tgA w i (w 1) < tgA w m (w 1); omega))) rfl _
          · exact step _ _ 0 ((mnO_n (by rw [z]; decide)).trans hm) rfl _
          · exact step _ _ 0 ((mnO_m (tt z) hm).trans (if_pos (by show tgA w i (w 1) < tgA w m (w 1); omega))) rfl _
    exact key _
  have loop : ∀ (g : Bool), (g = true → anyN (lsB w) (w 1) = true) → (g = false → anyN (lsB w) (w 1) = false) → ∀ (a : Int64) (f : Nat → Int32), (∀ y, y < 64 → bL a y = (g && (opn w y && alA w y 0))) → (∀ y, y < 64 → f y = nI (tgA w y 0)) → dd_Rn d m_X7_leastTogether (36, [.ref 139, .long a, .null, .int (nI 0), .null, .null], [], sM Ln (dd_u I 140 f) L c s) (dd_RI Ln c s K) := by
    intro g g1 g2
    have eg : g = anyN (lsB w) (w 1) := by
      cases g with
      | true => exact (g1 rfl).symm
      | false => exact (g2 rfl).symm
    refine dd_lp (fun i => ∀ (a : Int64) (f : Nat → Int32), (∀ y, y < 64 → bL a y = (g && (opn w y && alA w y i))) → (∀ y, y < 64 → f y = nI (tgA w y i)) → dd_Rn d m_X7_leastTogether (36, [.ref 139, .long a, .null, .int (nI i), .null, .null], [], sM Ln (dd_u I 140 f) L c s) (dd_RI Ln c s K)) (w 1) ?_ ?_
    · intro a f ha hf
      have c1 : RC w (dd_u I 140 f) L := hC.of (fun j _ _ => dd_un (by omega)) rfl
      refine w_X7_leastTogether_36 (by omega) ?_
      rw [c1.boys, nI_leI (by omega) (by omega)]
      refine ⟨fun _ => ?_, fun z => absurd (Nat.le_refl _) z⟩
      refine last a _ ((FR.refl I).u (by decide) (by decide)) (fun y hy => ?_) (fun y hy => by rw [dd_us]; exact hf y hy)
      rw [ha y hy, eg]
    · intro i hi ih a f ha hf
      have cl := (hO.2.2.2.1 i (by omega)).2.1
      have ti : tn (nI i) = i := nI_clamp (by omega)
      have c1 : RC w (dd_u I 140 f) L := hC.of (fun j _ _ => dd_un (by omega)) rfl
      have e1 : ∀ y, tgA w y (i + 1) = tgA w y i + if lsB w i = true then dvN (opn w) (w (187 + 5 * i)) y 64 else 0 := fun _ => rfl
      have e2 : ∀ y, alA w y (i + 1) = (alA w y i && (!lsB w i || lvA (opn w) (w (187 + 5 * i)) 64 y)) := fun _ => rfl
      refine w_X7_leastTogether_36 (by omega) ?_
      rw [c1.boys, nI_leI (by omega) (by omega)]
      simp only [nI_1]
      refine ⟨fun z => absurd z (by omega), fun _ => ?_⟩
      refine C_isIn (w := w) (by omega) c1 (by omega) ?_
      rw [bI_z, ti]
      refine ⟨fun z => ⟨⟨nI_pos' (by omega), by omega⟩, ?_⟩, fun z => ?_⟩
      · have zl : lsB w i = true := by unfold lsB; rw [z]; rfl
        rw [c1.cell (by omega)]
        refine C_addSteps (w := w) (T := fun y => tgA w y i) (by omega) c1 cl (fun y hy => by rw [dd_us]; exact hf y hy) fun f2 hf2 => ?_
        rw [dd_u_u]
        have c2 : RC w (dd_u I 140 f2) L := hC.of (fun j _ _ => dd_un (by omega)) rfl
        rw [c2.cell (by omega)]
        refine ⟨⟨nI_pos' (by omega), by omega⟩, ?_⟩
        refine C_reached (op := opn w) (by omega) cl ho fun v hv => ?_
        refine ih _ f2 (fun y hy => ?_) (fun y hy => ?_)
        · rw [bL_and, ha y hy, hv y hy, e2, zl]
          cases g <;> cases opn w y <;> cases alA w y i <;> rfl
        · rw [hf2 y hy, e1, if_pos zl]
      · have zl : lsB w i = false := by
          unfold lsB
          rw [decide_eq_true (Decidable.of_not_not (fun z2 => z (decide_eq_false z2)))]; rfl
        refine ih a f (fun y hy => ?_) (fun y hy => ?_)
        · rw [ha y hy, e2, zl]
          show _ = (g && (opn w y && (alA w y i && true)))
          rw [Bool.and_true]
        · rw [hf y hy, e1, if_neg (by rw [zl]; decide), Nat.add_zero]
  refine ⟨fun z => ?_, fun z => ?_⟩
  · refine C_fill140 (by omega) fun f hf => ?_
    exact loop false (fun q => by cases q) (fun _ => z) _ f (fun y hy => by rw [bL_0]; rfl) (fun y hy => hf y hy)
  · refine C_fill140 (by omega) fun f hf => ?_
    have e : dd_u I 140 f = dd_u I 140 f := rfl
    refine loop true (fun _ => by cases hq : anyN (lsB w) (w 1) with
      | true => rfl
      | false => exact absurd hq z) (fun q => by cases q) _ f (fun y hy => ?_) (fun y hy => hf y hy)
    rw [ho y hy]
    show opn w y = (true && (opn w y && true))
    rw [Bool.and_true, Bool.true_and]
/-- the model's sum -/
def psA (w : Nat → Nat) (y : Nat) : Nat → Nat := lpf (fun b x => if lsB w b = true then x + (match frst (fun n => lvA (opn w) y n (w (187 + 5 * b))) 64 with | none => 1000000 | some n => n) else x) 0
theorem psA_spec {w : Nat → Nat} {y : Nat} (hO : OKW w) (hy : y < 64) : ∀ i, i ≤ 6 → psA w y i ≤ 1000000 * i ∧ ((alA w y i = true ∧ psA w y i = tgA w y i) ∨ (alA w y i = false ∧ 1000000 ≤ psA w y i)) := by
  intro i
  induction i with
  | zero => intro _; exact ⟨Nat.le_refl _, Or.inl ⟨rfl, rfl⟩⟩
  | succ i ih =>
    intro hi
    obtain ⟨b1, b2⟩ := ih (by omega)
    have cl := (hO.2.2.2.1 i (by omega)).2.1
    have e0 : psA w y (i + 1) = if lsB w i = true then psA w y i + (match frst (fun n => lvA (opn w) y n (w (187 + 5 * i))) 64 with | none => 1000000 | some n => n) else psA w y i := rfl
    have e1 : tgA w y (i + 1) = tgA w y i + if lsB w i = true then dvN (opn w) (w (187 + 5 * i)) y 64 else 0 := rfl
    have e2 : alA w y (i + 1) = (alA w y i && (!lsB w i || lvA (opn w) (w (187 + 5 * i)) 64 y)) := rfl
    rw [e0, e1, e2]
    by_cases z : lsB w i = true
    · rw [if_pos z, if_pos z, z]
      have ef := fr_sym (op := opn w) hy cl
      have ev : dvN (opn w) (w (187 + 5 * i)) y 64 = (frst (fun n => lvA (opn w) y n (w (187 + 5 * i))) 64).getD 0 := by unfold dvN; rw [ef]
      rw [ev]
      rcases fr_64 (op := opn w) cl hy with ⟨q1, q2⟩ | ⟨n, q0, q1, q2⟩
      · rw [ef, q1, q2]
        refine ⟨by show psA w y i + 1000000 ≤ _; omega, Or.inr ⟨by cases alA w y i <;> rfl, by show 1000000 ≤ psA w y i + 1000000; omega⟩⟩
      · rw [ef, q1, q2]
        refine ⟨by show psA w y i + n ≤ _; omega, ?_⟩
        rcases b2 with ⟨x1, x2⟩ | ⟨x1, x2⟩
        · exact Or.inl ⟨by rw [x1]; rfl, by show psA w y i + n = tgA w y i + n; rw [x2]⟩
        · exact Or.inr ⟨by rw [x1]; rfl, by show 1000000 ≤ psA w y i + n; omega⟩
    · have zf : lsB w i = false := by
        cases hz : lsB w i with
        | true => exact absurd hz z
        | false => rfl
      rw [if_neg z, if_neg z, zf, Nat.add_zero]
      refine ⟨by omega, ?_⟩
      rcases b2 with ⟨x1, x2⟩ | ⟨x1, x2⟩
      · exact Or.inl ⟨by rw [x1]; rfl, x2⟩
      · exact Or.inr ⟨by rw [x1]; rfl, x2⟩
theorem M_pathsTo {d Ln c s : Nat} {I : Nat → Nat → Int32} {L : Nat → Nat → Int64} {K : Int32 → (Nat → Nat → Int32) → (Nat → Nat → Int64) → Prop} {w : Nat → Nat} {y : Nat} (hd : 30 ≤ d) (hR : RM w I) (hO : OKW w) (hy : y < 64) (k : ∀ I', RM w I' → FL I I' → K (nI (min (psA w y (w 1)) 1000000)) I' L) : dd_Ev d m_X11_pathsTo [.ref 148, .int (nI y)] (sM Ln I L c s) (dd_RI Ln c s K) := by
  have w1 := hO.1.2.1
  refine w_X11_pathsTo_0 (by omega) ?_
  refine M_look (w := w) (by omega) hR hO hy fun I2 len q r2 f2 m1 _ _ _ _ => ?_
  have key : dd_Rn d m_X11_pathsTo (9, [.ref 148, .int (nI y), .int (nI (psA w y 0)), .int (nI 0)], [], sM Ln I2 L c s) (dd_RI Ln c s K) := by
    refine dd_lp (fun i => dd_Rn d m_X11_pathsTo (9, [.ref 148, .int (nI y), .int (nI (psA w y i)), .int (nI i)], [], sM Ln I2 L c s) (dd_RI Ln c s K)) (w 1) ?_ ?_
    · have b := (psA_spec hO hy (w 1) w1).1
      refine w_X11_pathsTo_9 (by omega) ?_
      rw [r2.g (by omega), nI_leI (by omega) (by omega)]
      have e : (if nI (psA w y (w 1)) < 1000000 then nI (psA w y (w 1)) else 1000000) = nI (min (psA w y (w 1)) 1000000) := by
        rw [li_1000000]
        by_cases z : psA w y (w 1) < 1000000
        · rw [if_pos (nI_lt z (by omega)), Nat.min_eq_left (by omega)]
        · rw [if_neg (fun z2 => z (by rw [nI_ltI (by omega) (by omega)] at z2; exact z2)), Nat.min_eq_right (by omega)]
      rw [e]
      exact ⟨fun _ => dd_qi (k I2 r2 f2), fun z => absurd (Nat.le_refl _) z⟩
    · intro i hi ih
      obtain ⟨c0, c1, c2, c3, c4, c5⟩ := hO.2.2.2.1 i (by omega)
      have b := (psA_spec hO hy i (by omega)).1
      have e3 : (187 : Int32) + (5 : Int32) * nI i + 3 = nI (187 + 5 * i + 3) := by rw [li_187, li_5, li_3, pk_mul, nI_add, nI_add]
      have e0 : (187 : Int32) + (5 : Int32) * nI i + 0 = nI (187 + 5 * i) := by rw [li_187, li_5, li_0, pk_mul, nI_add, nI_add, Nat.add_zero]
      have t3 : tn (nI (187 + 5 * i + 3)) = 187 + 5 * i + 3 := nI_clamp (by omega)
      have t0 : tn (nI (187 + 5 * i)) = 187 + 5 * i := nI_clamp (by omega)
      have tc : tn (nI (w (187 + 5 * i))) = w (187 + 5 * i) := nI_clamp (by omega)
      have es : psA w y (i + 1) = if lsB w i = true then psA w y i + (match frst (fun n => lvA (opn w) y n (w (187 + 5 * i))) 64 with | none => 1000000 | some n => n) else psA w y i := rfl
      rw [es] at ih
      refine w_X11_pathsTo_9 (by omega) ?_
      rw [e3, t3, e0, t0, r2.g (show 1 < 1371 by omega), r2.g (show 187 + 5 * i + 3 < 1371 by omega), r2.g (show 187 + 5 * i < 1371 by omega), tc, m1 _ c1, nI_leI (by omega) (by omega), nI1i (by omega)]
      simp only [nI_1]
      refine ⟨fun z => absurd z (by omega), fun _ => ⟨⟨nI_pos' (by omega), by omega⟩, fun z => ?_, fun z => ⟨⟨nI_pos' (by omega), by omega⟩, ⟨nI_pos' (by omega), by omega⟩, ?_⟩⟩⟩
      · rw [if_neg (fun q => lsB_t.mp q z)] at ih
        exact ih
      · rw [if_pos (lsB_t.mpr z)] at ih
        rcases fr_64 (op := opn w) hy c1 with ⟨q1, q2⟩ | ⟨n, q0, q1, q2⟩
        · rw [q1] at ih ⊢
          refine ⟨fun _ => ?_, fun z => absurd rfl z⟩
          rw [li_1000000, nI_add]
          exact ih
        · rw [q1] at ih ⊢
          have ne : ¬ oI (some n) = -1 := fun z => by
            have : (nI n = -1) = False := nI_nm (by omega)
            exact (this ▸ z : False)
          refine ⟨fun z => absurd z ne, fun _ => ⟨⟨nI_pos' (by omega), by omega⟩, ⟨nI_pos' (by omega), by omega⟩, ?_⟩⟩
          show dd_Rn d m_X11_pathsTo (9, [.ref 148, .int (nI y), .int (nI (psA w y i) + nI n), .int (nI (i + 1))], [], sM Ln I2 L c s) (dd_RI Ln c s K)
          rw [nI_add]
          exact ih
  exact key
theorem A_should {d Ln c s : Nat} {I0 I : Nat → Nat → Int32} {L : Nat → Nat → Int64} {w : Nat → Nat} {im : Option (Nat → Nat)} {na od : Nat} {A : Nat → Nat → Nat} {tp : Nat → Nat} {tl : Nat} {fa : Option Nat} (hd : 60 ≤ d) (h : INV I0 w im na od A tp tl fa I L) : PIw d m_X10_should [.ref 0] m_X11_should [.ref 148] I0 Ln c s I L := by
  have hO := h.1.1
  have hC := h.2.2.1
  have w1 := hO.1.2.1
  refine PIw.q h (oI (mnO (alY w) (fun y => tgA w y (w 1)) 64)) ?_ ?_
  · intro K g
    refine w_X10_should_0 (by omega) ?_
    refine C_least (w := w) (by omega) hC hO fun I2 f2 => ?_
    exact dd_qi (g I2 L (FC.fr (FRm f2) (by decide)))
  · intro I1 L1 h1 K g
    have hR := h1.2.1
    refine w_X11_should_0 (by omega) ?_
    have fj := FM.th I1 0
    have t0 := thr0 (I := I1) (v := 0)
    have hR1 : RM w (dd_u I1 148 (upd (I1 148) 0 0)) := hR.of (dd_un (by decide))
    generalize dd_u I1 148 (upd (I1 148) 0 0) = J at *
    let T : Nat → Nat := fun y => tgA w y (w 1)
    let vl : Option Nat → Nat := fun o => match o with | none => 1000000 | some m => T m
    have bT : ∀ y, T y ≤ 384 := fun y => by have := tgA_le (w := w) (y := y) (w 1); show tgA w y (w 1) ≤ 384; omega
    have bv : ∀ o, vl o ≤ 1000000 := by
      intro o
      cases o with
      | none => exact Nat.le_refl _
      | some m => have := bT m; show T m ≤ 1000000; omega
    cases hl : anyN (lsB w) (w 1) with
    | false =>
      have nA : ∀ i, mnO (alY w) T i = none := by
        intro i
        induction i with
        | zero => rfl
        | succ i ih => rw [mnO_n (by show ¬ (anyN (lsB w) (w 1) && (opn w i && alA w i (w 1))) = true; rw [hl, Bool.false_and]; decide), ih]
      rw [nA] at g
      refine w_X11_should_13 (by omega) ?_
      refine ⟨fun z => absurd z (by decide), fun _ => ?_⟩
      refine M_outOnes (w := w) (by omega) hR1 hO fun v hv => ?_
      rw [outV_0 w1 hv]
      exact ⟨fun _ => mqJ hR1 fj t0 rfl g, fun z => absurd hl z⟩
    | true =>
      have key : ∀ I' a4, RM w I' → FL J I' → dd_Rn d m_X11_should (13, [.ref 148, .int (oI (mnO (alY w) T 0)), .int (nI (vl (mnO (alY w) T 0))), .int (nI 0), a4], [], sM Ln I' L1 c s) (dd_RI Ln c s K) := by
        refine dd_lp (fun i => ∀ I' a4, RM w I' → FL J I' → dd_Rn d m_X11_should (13, [.ref 148, .int (oI (mnO (alY w) T i)), .int (nI (vl (mnO (alY w) T i))), .int (nI i), a4], [], sM Ln I' L1 c s) (dd_RI Ln c s K)) 64 ?_ ?_
        · intro I' a4 r f
          refine w_X11_should_13 (by omega) ?_
          rw [li_64, nI_leI (by omega) (by omega)]
          exact ⟨fun _ => mqJ r (fj.trans (FM.fr f (by decide) (by decide))) (by rw [f.2 0 (by decide)]; exact t0) rfl g, fun z => absurd (Nat.le_refl _) z⟩
        · intro i hi ih I' a4 r f
          have tx := (hO.2.1 i hi).1
          have e11 : (11 : Int32) + nI i = nI (11 + i) := by rw [li_11, nI_add]
          have t11 : tn (nI (11 + i)) = 11 + i := nI_clamp (by omega)
          have bi := bT i
          have bo := bv (mnO (alY w) T i)
          have nl : ∀ a b : Nat, a ≤ 1000000 → b ≤ 1000000 → ((if nI a < nI b then nI a else nI b) = if a < b then nI a else nI b) := by
            intro a b ha hb
            by_cases q : a < b
            · rw [if_pos q, if_pos (nI_lt q (by omega))]
            · rw [if_neg q, if_neg (fun z => q (by rw [nI_ltI (by omega) (by omega)] at z; exact z))]
          refine w_X11_should_13 (by omega) ?_
          rw [li_64, nI_leI (by omega) (by omega)]
          simp only [nI_1]
          refine ⟨fun z => absurd z (by omega), fun _ => ?_⟩
          refine M_outOnes (w := w) (by omega) r hO fun v hv => ?_
          rw [outV_0 w1 hv, e11, t11, r.g (by omega), nI1i tx, li_1000000]
          refine ⟨fun z => absurd z (by rw [hl]; decide), fun _ => ⟨⟨nI_pos' (by omega), by omega⟩, fun z => ?_, fun z => ?_⟩⟩
          · have na : ¬ alY w i = true := by
              show ¬ (anyN (lsB w) (w 1) && (opn w i && alA w i (w 1))) = true
              rw [(opn_f hi).mpr z, Bool.false_and, Bool.and_false]; decide
            rw [mnO_n na] at ih
            rw [nI_leI (by omega) (by omega), nl _ _ (by omega) bo, if_neg (by omega)]
            exact ⟨fun _ => ih I' _ r f, fun z => absurd bo z⟩
          · have oi : opn w i = true := opn_t.mpr ⟨hi, z⟩
            refine M_pathsTo (w := w) (by omega) r hO hi fun I2 r2 f2 => ?_
            have f12 := f.trans f2
            have bm : min (psA w i (w 1)) 1000000 ≤ 1000000 := Nat.min_le_right _ _
            rw [nI_leI (by omega) (by omega), nl _ _ bm bo]
            rcases (psA_spec hO hi (w 1) w1).2 with ⟨x1, x2⟩ | ⟨x1, x2⟩
            · have ya : alY w i = true := by
                show (anyN (lsB w) (w 1) && (opn w i && alA w i (w 1))) = true
                rw [hl, oi, x1]; rfl
              have em : min (psA w i (w 1)) 1000000 = T i := by
                rw [x2]
                show min (T i) 1000000 = T i
                exact Nat.min_eq_left (by omega)
              rw [em]
              cases hm : mnO (alY w) T i with
              | none =>
                rw [mnO_0 ya hm] at ih
                refine ⟨fun q => ?_, fun q => ?_⟩
                · have q : 1000000 ≤ T i := q
                  omega
                · show dd_Rn d m_X11_should (13, [.ref 148, .int (nI i), .int (if T i < 1000000 then nI (T i) else nI 1000000), .int (nI (i + 1)), .int (nI (T i))], [], sM Ln I2 L1 c s) (dd_RI Ln c s K)
                  rw [if_pos (by omega)]
                  exact ih I2 _ r2 f12
              | some m =>
                rw [mnO_m ya hm] at ih
                have bm := bT m
                show (T m ≤ T i → dd_Rn d m_X11_should (13, [.ref 148, .int (nI m), .int (if T i < T m then nI (T i) else nI (T m)), .int (nI (i + 1)), .int (nI (T i))], [], sM Ln I2 L1 c s) (dd_RI Ln c s K)) ∧ (¬ T m ≤ T i → dd_Rn d m_X11_should (13, [.ref 148, .int (nI i), .int (if T i < T m then nI (T i) else nI (T m)), .int (nI (i + 1)), .int (nI (T i))], [], sM Ln I2 L1 c s) (dd_RI Ln c s K))
                refine ⟨fun q => ?_, fun q => ?_⟩
                · rw [if_neg (by omega)] at ih ⊢
                  exact ih I2 _ r2 f12
                · rw [if_pos (by omega)] at ih ⊢
                  exact ih I2 _ r2 f12
            · have na : ¬ alY w i = true := by
                show ¬ (anyN (lsB w) (w 1) && (opn w i && alA w i (w 1))) = true
                rw [x1, Bool.and_false, Bool.and_false]; decide
              rw [mnO_n na] at ih
              have em : min (psA w i (w 1)) 1000000 = 1000000 := Nat.min_eq_right x2
              rw [em, if_neg (by omega)]
              exact ⟨fun _ => ih I2 _ r2 f12, fun z => absurd bo z⟩
      exact key J _ hR1 (FR.refl J)
