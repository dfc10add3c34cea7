/-! Acts: plant -/
/-- as PW, where the answer is a truth -/
def PB (d mC : Nat) (aC : List Value) (mM : Nat) (aM : List Value) (I0 : Nat → Nat → Int32) (Ln c s : Nat) (I : Nat → Nat → Int32) (L : Nat → Nat → Int64) : Prop :=
  ∀ G : Int32 → Int32 → (Nat → Nat → Int32) → (Nat → Nat → Int64) → Nat → Nat → Prop, (∀ x1 x2 I2 L2 c2 s2, cs1 c s c2 s2 → I2 148 0 = x1 → (x1 = 0 → L2 163 0 = x2.toInt64 ∧ (x2 = 0 ∨ x2 = 1)) → INVx I0 I2 L2 → G x1 x2 I2 L2 c2 s2) → dd_Ev d mC aC (sM Ln I L c s) (dd_RJ Ln c s (fun x1 I1 L1 c1 s1 => ivS I0 I1 ∧ dd_Ev d mM aM (sM Ln I1 L1 c1 s1) (dd_RI Ln c1 s1 (fun x2 I2 L2 => G x1 x2 I2 L2 c1 s1))))
theorem PB.q {d mC : Nat} {aC : List Value} {mM : Nat} {aM : List Value} {I0 : Nat → Nat → Int32} {Ln c s : Nat} {I : Nat → Nat → Int32} {L : Nat → Nat → Int64} {w : Nat → Nat} {im : Option (Nat → Nat)} {na od : Nat} {A : Nat → Nat → Nat} {tp : Nat → Nat} {tl : Nat} {fa : Option Nat} (h : INV I0 w im na od A tp tl fa I L) (k v : Int32) (hk : k ≠ 0) (hC : CQw d mC aC k v Ln c s I L) (hM : ∀ I1 L1 c1 s1, INV I0 w im na od A tp tl fa I1 L1 → MQw d mM aM w k v Ln c1 s1 I1 L1) : PB d mC aC mM aM I0 Ln c s I L := by
  intro G g
  refine hC _ fun I1 L1 c1 s1 e1 f1 o1 => ?_
  have h1 := h.qC f1
  refine ⟨h1.2.2.2.2.2.2.2.2, ?_⟩
  refine hM I1 L1 c1 s1 h1 _ fun I2 x2 r2 f2 t2 v2 => ?_
  exact g k x2 I2 L1 c1 s1 e1 t2 (fun q => absurd q hk) ⟨w, im, na, od, A, tp, tl, fa, h1.qM f2 r2⟩
theorem PB.actB {d mL mX mM : Nat} {aL aX aM : List Value} {I0 I : Nat → Nat → Int32} {Ln c s : Nat} {L : Nat → Nat → Int64} {w w' : Nat → Nat} {im : Option (Nat → Nat)} {na od : Nat} {A : Nat → Nat → Nat} {tp : Nat → Nat} {tl : Nat} {fa : Option Nat} {v : Int32} {N : (dd_O → Prop) → Int32 → (Nat → Nat → Int32) → (Nat → Nat → Int64) → Prop} {T : (dd_O → Prop) → Nat → (Nat → Nat → Int32) → (Nat → Nat → Int64) → Prop} (h : INV I0 w im na od A tp tl fa I L) (wl : ∀ {Q : dd_O → Prop}, dd_Ev (d - 1) mX aX (sM Ln I L c s) (dd_TI Ln c s (N Q) (T Q)) → dd_Ev d mL aL (sM Ln I L c s) Q) (hN : ∀ (Q : dd_O → Prop) I1 L1, Q (none, .int 0, sM Ln I1 (dd_u L1 163 (vp_updL (L1 163) 0 v.toInt64)) c s) → N Q v I1 L1) (hv : v = 0 ∨ v = 1) (g : GOOD w') (sl : sameL w w') (hC : CA (d - 1) mX aX w w' na od A v Ln c s I L) (hM : ∀ I2 L2, RM w I2 → acM na A I2 → MA d mM aM w w' na A v Ln c s I2 L2) : PB d mL aL mM aM I0 Ln c s I L := by
  intro G k
  obtain ⟨a1, a2, a3, a4, a5, a6⟩ := h.2.2.2.2.2.1
  refine wl (hC _ _ fun I1 L1 I2 L2 c1 f1 l1 r2 f2 e1 e2 l2 => hN _ _ _ ?_)
  refine dd_qJ ⟨fun k hk => by rw [f2 k (by omega), f1 k (by omega) (by omega)]; exact h.2.2.2.2.2.2.2.2 k hk, ?_⟩
  have e149 : I2 149 = I 149 := by rw [f2 149 (by omega), f1 149 (by omega) (by omega)]
  have e148 : I2 148 = I 148 := by rw [f2 148 (by omega), f1 148 (by omega) (by omega)]
  have e153 : I2 153 = I 153 := by rw [f2 153 (by omega), f1 153 (by omega) (by omega)]
  refine hM I2 _ (h.2.1.of e149) ⟨by rw [e148]; exact a3, fun i hi j hj => by rw [e153]; exact (a6 i hi).2.2.1 j hj⟩ _ fun I3 I4 m3 f3 t3 r4 f4 t4 => ?_
  exact k 0 v I4 _ c s (cs1r c s) (t4.trans t3) (fun _ => ⟨outL, hv⟩) ⟨w', im, acN na, acO na od, acA na A w, tp, tl, fa, h.acts g sl c1 f1 l1 r2 f2 e1 e2 l2 m3 f3 r4 f4⟩
def lostP (w : Nat → Nat) (x : Nat) : Nat → Bool := fun b => !decide (w (187 + 5 * b + 3) = 1) && decide (w (187 + 5 * b) = x)
theorem C_isLostAt {d Ln c s : Nat} {I : Nat → Nat → Int32} {L : Nat → Nat → Int64} {K : Int32 → (Nat → Nat → Int32) → (Nat → Nat → Int64) → Prop} {w : Nat → Nat} {x : Nat} (hd : 30 ≤ d) (hC : RC w I L) (hO : OKW w) (hx : x < 64) (k : K (bI (anyN (lostP w x) (w 1))) I L) : dd_Ev d m_X8_isLostAt [.ref 1, .int (nI x)] (sM Ln I L c s) (dd_RI Ln c s K) := by
  have w1 := hO.1.2.1
  refine w_X8_isLostAt_0 (by omega) ?_
  have key : anyN (lostP w x) 0 = false → dd_Rn d m_X8_isLostAt (2, [.ref 1, .int (nI x), .int (nI 0)], [], sM Ln I L c s) (dd_RI Ln c s K) := by
    refine dd_lp (fun i => anyN (lostP w x) i = false → dd_Rn d m_X8_isLostAt (2, [.ref 1, .int (nI x), .int (nI i)], [], sM Ln I L c s) (dd_RI Ln c s K)) (w 1) ?_ ?_
    · intro q
      refine w_X8_isLostAt_2 (by omega) ?_
      rw [hC.boys, nI_leI (by omega) (by omega)]
      rw [q] at k
      exact ⟨fun _ => dd_qi k, fun z => absurd (Nat.le_refl _) z⟩
    · intro i hi ih q
      have c1 := (hO.2.2.2.1 i (by omega)).2.1
      have ti : tn (nI i) = i := nI_clamp (by omega)
      refine w_X8_isLostAt_2 (by omega) ?_
      rw [hC.boys, nI_leI (by omega) (by omega), ti, nI_1]
      refine ⟨fun z => absurd z (by omega), fun _ => ?_⟩
      refine C_isIn (w := w) (by omega) hC (by omega) ?_
      rw [bI_z, hC.cell (by omega), nI_eq (by omega) (by omega)]
      have es : anyN (lostP w x) (i + 1) = (anyN (lostP w x) i || lostP w x i) := rfl
      rw [q, Bool.false_or] at es
      refine ⟨fun z => ⟨⟨nI_pos' (by omega), by omega⟩, fun z2 => ?_, fun z2 => ?_⟩, fun z => ?_⟩
      · have e : anyN (lostP w x) (w 1) = true := (anyN_iff _ _).mpr ⟨i, hi, by unfold lostP; rw [z, decide_eq_true z2]; rfl⟩
        rw [e] at k
        exact dd_qi k
      · exact ih (by rw [es]; unfold lostP; rw [decide_eq_false z2, Bool.and_false])
      · refine ih (by rw [es]; unfold lostP; rw [decide_eq_true (Decidable.of_not_not (fun z2 => z (decide_eq_false z2)))]; rfl)
  exact key rfl
theorem M_isLostIn {d Ln c s : Nat} {I : Nat → Nat → Int32} {L : Nat → Nat → Int64} {K : Int32 → (Nat → Nat → Int32) → (Nat → Nat → Int64) → Prop} {w : Nat → Nat} {x : Nat} (hd : 28 ≤ d) (hR : RM w I) (hO : OKW w) (hx : x < 64) (k : K (bI (anyN (lostP w x) (w 1))) I L) : dd_Ev d m_X11_isLostIn [.ref 148, .int (nI x)] (sM Ln I L c s) (dd_RI Ln c s K) := by
  have w1 := hO.1.2.1
  refine w_X11_isLostIn_0 (by omega) ?_
  have key : dd_Rn d m_X11_isLostIn (4, [.ref 148, .int (nI x), .int (bI (anyN (lostP w x) 0)), .int (nI 0)], [], sM Ln I L c s) (dd_RI Ln c s K) := by
    refine dd_lp (fun i => dd_Rn d m_X11_isLostIn (4, [.ref 148, .int (nI x), .int (bI (anyN (lostP w x) i)), .int (nI i)], [], sM Ln I L c s) (dd_RI Ln c s K)) (w 1) ?_ ?_
    · refine w_X11_isLostIn_4 (by omega) ?_
      rw [hR.g (by omega), nI_leI (by omega) (by omega)]
      refine ⟨fun _ => ⟨?_, dd_qi k⟩, fun z => absurd (Nat.le_refl _) z⟩
      cases anyN (lostP w x) (w 1)
      · exact Or.inl rfl
      · exact Or.inr rfl
    · intro i hi ih
      obtain ⟨c0, c1, c2, c3, c4, c5⟩ := hO.2.2.2.1 i (by omega)
      have e3 : (187 : Int32) + (5 : Int32) * nI i + 3 = nI (187 + 5 * i + 3) := by rw [li_187, li_5, li_3, pk_mul, nI_add, nI_add]
      have e0 : (187 : Int32) + (5 : Int32) * nI i + 0 = nI (187 + 5 * i) := by rw [li_187, li_5, li_0, pk_mul, nI_add, nI_add, Nat.add_zero]
      have t3 : tn (nI (187 + 5 * i + 3)) = 187 + 5 * i + 3 := nI_clamp (by omega)
      have t0 : tn (nI (187 + 5 * i)) = 187 + 5 * i := nI_clamp (by omega)
      refine w_X11_isLostIn_4 (by omega) ?_
      rw [e3, t3, e0, t0, hR.g (show 1 < 1371 by omega), hR.g (show 187 + 5 * i + 3 < 1371 by omega), hR.g (show 187 + 5 * i < 1371 by omega), nI_leI (by omega) (by omega), nI1i (by omega), nI_eq (by omega) (by omega), nI_1, bI_z]
      have es : anyN (lostP w x) (i + 1) = (anyN (lostP w x) i || lostP w x i) := rfl
      refine ⟨fun z => absurd z (by omega), fun _ => ⟨fun q => ⟨⟨nI_pos' (by omega), by omega⟩, fun z => ?_, fun z => ⟨⟨nI_pos' (by omega), by omega⟩, fun z2 => ?_, fun z2 => ?_⟩⟩, fun q => ?_⟩⟩
      · have e : anyN (lostP w x) (i + 1) = false := by rw [es, q]; unfold lostP; rw [decide_eq_true z]; rfl
        rw [e] at ih
        exact ih
      · have e : anyN (lostP w x) (i + 1) = true := by rw [es, q]; unfold lostP; rw [decide_eq_false z, decide_eq_true z2]; rfl
        rw [e] at ih
        exact ih
      · have e : anyN (lostP w x) (i + 1) = false := by rw [es, q]; unfold lostP; rw [decide_eq_false z2, Bool.and_false]; rfl
        rw [e] at ih
        exact ih
      · have e : anyN (lostP w x) (i + 1) = true := by
          rw [es]
          cases hq : anyN (lostP w x) i with
          | true => rfl
          | false => exact absurd hq q
        rw [e] at ih
        exact ih
  exact key
theorem GOOD_tree {w : Nat → Nat} {x v : Nat} (h : GOOD w) (hx : x < 64) (hv : v ≤ 1) (ho : v = 1 → ¬ x = w 4 ∧ ∀ b, b < w 1 → ¬ w (187 + 5 * b) = x) : GOOD (upw w (11 + x) v) := by
  obtain ⟨g1, g2, ⟨g3, g4⟩, g5, g6⟩ := h
  have w4 := g1.1.2.2.2.1
  have w1 := g1.1.2.1
  refine ⟨okW_t g1 hx hv, inbs_up g2 (by omega) (by omega) (fun b => by omega), ⟨?_, ?_⟩, ?_, ?_⟩
  · rw [upw_ne (show 4 ≠ 11 + x by omega)]
    by_cases q : w 4 = x
    · rw [q, upw_eq]; exact fun z => (ho z).1 q.symm
    · rw [upw_ne (by omega)]; exact g3
  · intro b hb
    rw [upw_ne (by omega)] at hb
    rw [upw_ne (show 187 + 5 * b ≠ 11 + x by omega)]
    by_cases q : w (187 + 5 * b) = x
    · rw [q, upw_eq]; exact fun z => (ho z).2 b hb q
    · rw [upw_ne (by omega)]; exact g4 b hb
  · intro a ha
    rw [upw_ne (by omega)] at ha
    rw [upw_ne (by omega), upw_ne (by omega), upw_ne (by omega), upw_ne (by omega), upw_ne (by omega)]
    exact g5 a ha
  · intro b hb h6
    rw [upw_ne (by omega)] at hb
    rw [upw_ne (by omega)]
    exact g6 b hb h6
def plV (w : Nat → Nat) (x : Nat) (t : Bool) : Bool := decide (w (11 + x) = 1) != t
/-- the class's tree set or felled -/
theorem C_plantT {d Ln c s : Nat} {I : Nat → Nat → Int32} {L : Nat → Nat → Int64} {w : Nat → Nat} {x : Nat} {t : Bool} (hC : RC w I L) (hO : OKW w) (hx : x < 64) (hd : 28 ≤ d) {Q : dd_O → Prop} (kk : ∀ L', RC (upw w (11 + x) t.toNat) I L' → (∀ k, k ≠ 1 → L' k = L k) → Q (none, .int (bI (plV w x t)), sM Ln I L' c s)) : dd_Ev d m_X8_isOpen [.ref 1, .int (nI x)] (sM Ln I L c s) (dd_RI Ln c s (fun x2 I2 L2 => ((x2 = bI t → Q (none, .int 1, sM Ln I2 (dd_u L2 1 (vp_updL (L2 1) 0 ((L2 1 0) ^^^ ((Int64.ofNat 1) <<< ((nI x).toInt64 &&& 63))))) c s)) ∧ (¬ (x2 = bI t) → Q (none, .int 0, sM Ln I2 L2 c s))))) := by
  have tx := (hO.2.1 x hx).1
  refine C_isOpen (w := w) hd hC (by omega) ?_
  have hop : opn w x = !decide (w (11 + x) = 1) := by unfold opn; rw [decide_eq_true hx]; rfl
  have e : ∀ a b : Bool, (bI a = bI b) ↔ a = b := by decide
  rw [e, hop]
  refine ⟨fun z => ?_, fun z => ?_⟩
  · have p : plV w x t = true := by
      unfold plV
      cases hq : decide (w (11 + x) = 1) <;> rw [hq] at z <;> cases t <;> first | rfl | cases z
    rw [p] at kk
    refine kk _ (hC.uTree (v := t.toNat) hx (fun i hi => ?_)) (fun k hk => dd_un hk)
    rw [bL_xor, bL_one hx hi]
    by_cases q : i = x
    · subst q
      rw [if_pos rfl, decide_eq_true rfl, hC.tree hx]
      cases hq : decide (w (11 + i) = 1) <;> rw [hq] at z <;> cases t <;> first | rfl | cases z
    · rw [if_neg q, decide_eq_false q, Bool.xor_false]
  · have p : plV w x t = false := by
      unfold plV
      cases hq : decide (w (11 + x) = 1) <;> rw [hq] at z <;> cases t <;> first | rfl | exact absurd rfl z
    rw [p] at kk
    have eu : upw w (11 + x) t.toNat = w := by
      have : w (11 + x) = t.toNat := by
        cases hq : decide (w (11 + x) = 1) with
        | true => rw [hq] at z; cases t with
          | true => exact of_decide_eq_true hq
          | false => exact absurd rfl z
        | false => rw [hq] at z; cases t with
          | true => exact absurd rfl z
          | false =>
            have := of_decide_eq_false hq
            show w (11 + x) = 0
            omega
      rw [← this, upw_id]
    rw [eu] at kk
    exact kk L hC (fun _ _ => rfl)
theorem M_plantT {d Ln c s : Nat} {I : Nat → Nat → Int32} {L : Nat → Nat → Int64} {w : Nat → Nat} {x : Nat} {t : Bool} (hR : RM w I) (hO : OKW w) (hx : x < 64) (hd : 28 ≤ d) {Q : dd_O → Prop} (kk : RM (upw w (11 + x) t.toNat) (dd_u I 149 (upd (I 149) (11 + x) (nI t.toNat))) → Q (none, .int (bI (plV w x t)), sM Ln (dd_u I 149 (upd (I 149) (11 + x) (nI t.toNat))) L c s)) : ((0 ≤ ((11 : Int32) + nI x) ∧ tn ((11 : Int32) + nI x) < 2220) ∧ ((I 149 (tn ((11 : Int32) + nI x)) = 1 → ((bI t = 0 → dd_Rn d m_X11_plant (81, [.ref 148, .int (nI x), .int (bI t), .int 1], [.int 0, .int ((11 : Int32) + nI x), .ref 149], sM Ln I L c s) Q) ∧ (¬ (bI t = 0) → dd_Rn d m_X11_plant (81, [.ref 148, .int (nI x), .int (bI t), .int 1], [.int 1, .int ((11 : Int32) + nI x), .ref 149], sM Ln I L c s) Q))) ∧ (¬ (I 149 (tn ((11 : Int32) + nI x)) = 1) → ((bI t = 0 → dd_Rn d m_X11_plant (81, [.ref 148, .int (nI x), .int (bI t), .int 0], [.int 0, .int ((11 : Int32) + nI x), .ref 149], sM Ln I L c s) Q) ∧ (¬ (bI t = 0) → dd_Rn d m_X11_plant (81, [.ref 148, .int (nI x), .int (bI t), .int 0], [.int 1, .int ((11 : Int32) + nI x), .ref 149], sM Ln I L c s) Q))))) := by
  have tx := (hO.2.1 x hx).1
  have e11 : (11 : Int32) + nI x = nI (11 + x) := by rw [li_11, nI_add]
  have t11 : tn (nI (11 + x)) = 11 + x := nI_clamp (by omega)
  have k' := kk (RM.set (nu hR _ _))
  have go : ∀ a3 b2 : Int32, b2 = nI t.toNat → (a3 = bI t → bI (plV w x t) = 0) → (¬ a3 = bI t → bI (plV w x t) = 1) → dd_Rn d m_X11_plant (81, [.ref 148, .int (nI x), .int (bI t), .int a3], [.int b2, .int (nI (11 + x)), .ref 149], sM Ln I L c s) Q := by
    intro a3 b2 hb h0 h1
    subst hb
    refine w_X11_plant_81 (by omega) ?_
    rw [t11]
    refine ⟨⟨nI_pos' (by omega), by omega⟩, fun z => ?_, fun z => ?_⟩
    · refine w_X11_plant_92 (by omega) ⟨Or.inl rfl, ?_⟩
      rw [h0 z] at k'
      exact k'
    · refine w_X11_plant_92 (by omega) ⟨Or.inr rfl, ?_⟩
      rw [h1 z] at k'
      exact k'
  rw [e11, t11, hR.g (by omega), nI1i (by omega)]
  refine ⟨⟨nI_pos' (by omega), by omega⟩, fun q => ⟨fun z => ?_, fun z => ?_⟩, fun q => ⟨fun z => ?_, fun z => ?_⟩⟩
  · have tf : t = false := bI_z.mp z
    subst tf
    refine go 1 0 rfl (fun q2 => absurd q2 (by decide)) (fun _ => ?_)
    unfold plV; rw [decide_eq_true q]; rfl
  · have tf : t = true := by cases t; exact absurd rfl z; rfl
    subst tf
    refine go 1 1 rfl (fun _ => ?_) (fun q2 => absurd rfl q2)
    unfold plV; rw [decide_eq_true q]; rfl
  · have tf : t = false := bI_z.mp z
    subst tf
    refine go 0 0 rfl (fun _ => ?_) (fun q2 => absurd rfl q2)
    unfold plV; rw [decide_eq_false q]; rfl
  · have tf : t = true := by cases t; exact absurd rfl z; rfl
    subst tf
    refine go 0 1 rfl (fun q2 => absurd q2 (by decide)) (fun _ => ?_)
    unfold plV; rw [decide_eq_false q]; rfl
theorem lostP_all {w : Nat → Nat} {x : Nat} (hi : inbs w) (h4 : ¬ x = w 4) (h : anyN (lostP w x) (w 1) = false) : ∀ b, b < w 1 → ¬ w (187 + 5 * b) = x := by
  intro b hb q
  have := (anyN_no _ _).mp h b hb
  unfold lostP at this
  rw [decide_eq_true q, Bool.and_true, Bool.not_eq_false', decide_eq_true_eq] at this
  exact h4 (by rw [← q]; exact (hi b hb).mp this)
theorem A_plant {d Ln c s : Nat} {I0 I : Nat → Nat → Int32} {L : Nat → Nat → Int64} {w : Nat → Nat} {im : Option (Nat → Nat)} {na od : Nat} {A : Nat → Nat → Nat} {tp : Nat → Nat} {tl : Nat} {fa : Option Nat} (hd : 60 ≤ d) (h : INV I0 w im na od A tp tl fa I L) (a : Int32) (t : Bool) : PB d m_L_plant [.ref 0, .int a, .int (bI t), .ref 163] m_X11_plant [.ref 148, .int a, .int (bI t)] I0 Ln c s I L := by
  have hO := h.1.1
  have hC := h.2.2.1
  have w1 := hO.1.2.1
  have w4 := hO.1.2.2.2.1
  have na12 := h.2.2.2.2.2.1.1
  by_cases hv : vld a 64
  · obtain ⟨x, hx, rfl⟩ := vld_i (by omega) hv
    have hN : ∀ (Q : dd_O → Prop) (I1 : Nat → Nat → Int32) (L1 : Nat → Nat → Int64), Q (none, .int 0, sM Ln I1 (dd_u L1 163 (vp_updL (L1 163) 0 (bI (plV w x t)).toInt64)) c s) → ((bI (plV w x t) = 0 → Q (none, .int 0, sM Ln I1 (dd_u L1 163 (vp_updL (L1 163) 0 (Int64.ofNat 0))) c s)) ∧ (¬ bI (plV w x t) = 0 → Q (none, .int 0, sM Ln I1 (dd_u L1 163 (vp_updL (L1 163) 0 (Int64.ofNat 1))) c s))) := by
      intro Q I1 L1 q
      cases hp : plV w x t with
      | false => rw [hp] at q; exact ⟨fun _ => q, fun z => absurd rfl z⟩
      | true => rw [hp] at q; exact ⟨fun z => absurd z (by decide), fun _ => q⟩
    by_cases hp : t = true ∧ (x = w 4 ∨ anyN (lostP w x) (w 1) = true)
    · obtain ⟨tt, hp⟩ := hp
      subst tt
      refine PB.q h 2 0 (by decide) ?_ ?_
      · intro K g
        refine w_L_plant_0 (by omega) ?_
        refine w_X10_plant_0 (by omega) (rqC (n := 64) rfl (fun z => absurd hv z) fun _ => ⟨fun z => absurd z (by decide), fun _ => ?_⟩)
        refine w_X8_canPlant_0 (by omega) ?_
        rw [hC.fire, nI_eq (by omega) (by omega)]
        have fin : ∀ I2 L2, I2 = I → L2 = L → dd_TI Ln c s (fun x1 I1 L1 => ((x1 = 0 → dd_RJ Ln c s K (none, .int 0, sM Ln I1 (dd_u L1 163 (vp_updL (L1 163) 0 (Int64.ofNat 0))) c s)) ∧ (¬ (x1 = 0) → dd_RJ Ln c s K (none, .int 0, sM Ln I1 (dd_u L1 163 (vp_updL (L1 163) 0 (Int64.ofNat 1))) c s)))) (fun E1 I1 L1 => (E1 = 2 ∧ dd_RJ Ln c s K (none, .int 1, sM Ln I1 L1 (c + 1) (s + 6))) ∨ (E1 = 4 ∧ dd_RJ Ln c s K (none, .int 2, sM Ln I1 L1 (c + 1) (s + 6)))) (some 4, .null, sM Ln I2 L2 (c + 1) (s + 6)) := by
          intro I2 L2 e1 e2
          subst e1
          subst e2
          exact dd_qX (Or.inr ⟨rfl, dd_qJt (g _ _ _ _ (cs1t c s) (FC.refl _ _) (fun q => absurd q (by decide)))⟩)
        refine ⟨fun _ => dd_qi ⟨fun _ => fin I L rfl rfl, fun z => absurd rfl z⟩, fun z => ?_⟩
        refine C_isLostAt (w := w) (by omega) hC hO hx ?_
        rcases hp with q | q
        · exact absurd q z
        · rw [q]
          exact ⟨fun z => absurd z (by decide), fun _ => dd_qi ⟨fun _ => fin I L rfl rfl, fun z => absurd rfl z⟩⟩
      · intro I1 L1 c1 s1 h1 K g
        have hR := h1.2.1
        have fj := FM.th I1 0
        have t0 : dd_u I1 148 (upd (I1 148) 0 0) 148 0 = 0 := thr0
        refine w_X11_plant_0 (by omega) ?_
        refine rqN (m := 63) rfl (by omega) (fun z => absurd hv z) fun _ => ⟨fun z => absurd z (by decide), fun _ => ?_⟩
        rw [hR.g (by omega), nI_eq (by omega) (by omega)]
        refine ⟨fun _ => ?_, fun z => ?_⟩
        · rw [dd_u_u, upd_uu]
          exact mqT hR (by decide) g
        · refine M_isLostIn (w := w) (by omega) (hR.of (dd_un (by decide))) hO hx ?_
          rcases hp with q | q
          · exact absurd q z
          · rw [q]
            refine ⟨fun z => absurd z (by decide), fun _ => ?_⟩
            rw [dd_u_u, dd_us, upd_uu]
            exact mqT hR (by decide) g
    · have hp1 : t = true → ¬ x = w 4 ∧ anyN (lostP w x) (w 1) = false := by
        intro tt
        refine ⟨fun z => hp ⟨tt, Or.inl z⟩, ?_⟩
        cases hq : anyN (lostP w x) (w 1) with
        | false => rfl
        | true => exact absurd ⟨tt, Or.inr hq⟩ hp
      have gT : GOOD (upw w (11 + x) t.toNat) := by
        refine GOOD_tree h.1 hx (by cases t <;> decide) (fun z => ?_)
        have tt : t = true := by
          cases t
          · cases z
          · rfl
        exact ⟨(hp1 tt).1, lostP_all h.1.2.1 (hp1 tt).1 (hp1 tt).2⟩
      refine PB.actB (v := bI (plV w x t)) (w' := upw w (11 + x) t.toNat) h (w_L_plant_0 (by omega)) hN (by cases plV w x t <;> decide) gT (sameL_upw (by omega) (by omega)) ?_ ?_
      · intro K T g
        refine w_X10_plant_0 (by omega) (rqC (n := 64) rfl (fun z => absurd hv z) fun _ => ?_)
        have tail : ∀ I1 L1, RC w I1 L1 → acC (acN na) (acO na od) (acA na A w) I1 L1 → (∀ k, k ≠ 31 → (k < 33 ∨ 129 ≤ k) → I1 k = I k) → (∀ k, k < 33 ∨ 129 ≤ k → L1 k = L k) → dd_Ev (d - 1 - 1) m_X8_isOpen [.ref 1, .int (nI x)] (sM Ln I1 L1 c s) (dd_RI Ln c s (fun x2 I2 L2 => ((x2 = bI t → dd_TI Ln c s K T (none, .int 1, sM Ln I2 (dd_u L2 1 (vp_updL (L2 1) 0 ((L2 1 0) ^^^ ((Int64.ofNat 1) <<< ((nI x).toInt64 &&& 63))))) c s)) ∧ (¬ (x2 = bI t) → dd_TI Ln c s K T (none, .int 0, sM Ln I2 L2 c s))))) := by
          intro I1 L1 r1 c1 f1 l1
          refine C_plantT r1 hO hx (by omega) fun L2 r2 l2 => ?_
          exact dd_qT (g I1 L1 I1 L2 c1 f1 l1 r2 (fun _ _ => rfl) rfl rfl (fun k h1 h2 => l2 k (by omega)))
        refine ⟨fun z => ?_, fun z => ?_⟩
        · exact C_remA (by omega) h fun I1 L1 r1 _ c1 f1 l1 => tail I1 L1 r1 c1 f1 l1
        · have tt : t = true := by
            cases t
            · exact absurd rfl z
            · rfl
          refine w_X8_canPlant_0 (by omega) ?_
          rw [hC.fire, nI_eq (by omega) (by omega)]
          refine ⟨fun z => absurd z (hp1 tt).1, fun _ => ?_⟩
          refine C_isLostAt (w := w) (by omega) hC hO hx ?_
          rw [(hp1 tt).2]
          refine ⟨fun _ => dd_qi ⟨fun z => absurd z (by decide), fun _ => ?_⟩, fun z => absurd rfl z⟩
          exact C_remA (by omega) h fun I1 L1 r1 _ c1 f1 l1 => tail I1 L1 r1 c1 f1 l1
      · intro I2 L2 hR ha K g
        refine w_X11_plant_0 (by omega) (rqN (m := 63) rfl (by omega) (fun z => absurd hv z) fun _ => ⟨fun z => ?_, fun z => ?_⟩)
        · refine M_remA (w := w) (na := na) (A := A) (by omega) hR na12 ha fun I3 r3 m3 f3 t3' => ?_
          exact M_plantT r3 hO hx (by omega) fun r4 => dd_qi (g I3 _ m3 f3 t3' r4 (FM.fr (A := [149]) (B := []) ((FR.refl I3).u (by decide) (by decide)) (by decide) (by decide)) (by rw [dd_un (by decide)]))
        · have tt : t = true := by
            cases t
            · exact absurd rfl z
            · rfl
          rw [hR.g (by omega), nI_eq (by omega) (by omega)]
          refine ⟨fun z => absurd z (hp1 tt).1, fun _ => ?_⟩
          refine M_isLostIn (w := w) (by omega) (hR.of (dd_un (by decide))) hO hx ?_
          rw [(hp1 tt).2]
          refine ⟨fun _ => ?_, fun z => absurd rfl z⟩
          refine M_remA (w := w) (na := na) (A := A) (by omega) hR na12 ha fun I3 r3 m3 f3 t3' => ?_
          exact M_plantT r3 hO hx (by omega) fun r4 => dd_qi (g I3 _ m3 f3 t3' r4 (FM.fr (A := [149]) (B := []) ((FR.refl I3).u (by decide) (by decide)) (by decide) (by decide)) (by rw [dd_un (by decide)]))
  · refine PB.q h 1 0 (by decide) ?_ ?_
    · intro K g
      refine w_L_plant_0 (by omega) ?_
      refine w_X10_plant_0 (by omega) (rqC (n := 64) rfl (fun _ => ?_) fun z => absurd z hv)
      exact dd_qX (Or.inl ⟨rfl, dd_qJt (g _ _ _ _ (cs1t c s) (FC.refl _ _) (fun q => absurd q (by decide)))⟩)
    · intro I1 L1 c1 s1 h1 K g
      have hR := h1.2.1
      refine w_X11_plant_0 (by omega) ?_
      simp only [dd_u_u, upd_uu]
      exact rqN (m := 63) rfl (by omega) (fun _ => mqT hR (by decide) g) fun z => absurd z hv
