/-! watch -/
theorem outV_ex {u : Nat → Nat} (h1 : u 1 ≤ 6) : ∃ m, m < 64 ∧ outV u (nI m) := by
  have hb := fun i hi => msk_b (p := fun i => decide (i < u 1) && !decide (u (187 + 5 * i + 3) = 1)) (n := 6) (by omega) i hi
  obtain ⟨m, hm, e⟩ := small_of (x := msk (fun i => decide (i < u 1) && !decide (u (187 + 5 * i + 3) = 1)) 6) (k := 6) (by omega) (fun i hi h32 => by rw [hb i h32, decide_eq_false (by omega), Bool.false_and])
  refine ⟨m, hm, fun i hi => ?_⟩
  rw [← e, hb i hi]
  by_cases q : i < 6
  · rw [decide_eq_true q, Bool.true_and]
  · rw [decide_eq_false q, decide_eq_false (show ¬ i < u 1 by omega)]; rfl
theorem outV_eq {u : Nat → Nat} {v v2 : Int32} (h : outV u v) (h2 : outV u v2) : v = v2 := bX_ext (fun i hi => by rw [h i hi, h2 i hi])
theorem RW.outV {w : Nat → Nat} {I : Nat → Nat → Int32} {L : Nat → Nat → Int64} (h : RW w I L 1) (h1 : w 1 ≤ 6) : outV w (((1 : Int32) <<< (nI (w 1) &&& 31) - 1) &&& (I 1 12 ^^^ (-1))) := by
  intro i hi
  rw [bX_and, lowX _ (by omega) i hi, bX_not _ hi, h.isin hi]
  by_cases q : i < w 1
  · rw [decide_eq_true q, decide_eq_true (show i < 6 by omega)]; rfl
  · rw [decide_eq_false q, Bool.false_and, Bool.false_and]
theorem nI_dec (n : Nat) : nI (n + 1) + (-1) = nI n := by
  rw [← nI_1, Int32.add_assoc, show (1 : Int32) + (-1) = 0 by decide, Int32.add_zero]
def subN (s V : Nat) : Bool := decide (s &&& V = s)
theorem sub_I : ∀ V, V < 64 → ∀ s, s < 64 → ((nI s &&& (nI V ^^^ (-1)) = 0) ↔ subN s V = true) := by decide +kernel
theorem sub_pop : ∀ V, V < 64 → ∀ s, s < 64 → subN s V = true → s = V ∨ (pop6 s < pop6 V ∧ s < V) := by decide +kernel
theorem sub_bit {s V : Nat} (h : subN s V = true) {i : Nat} (hi : s.testBit i = true) : V.testBit i = true := by
  have e := of_decide_eq_true h
  rw [← e, Nat.testBit_and, Bool.and_eq_true] at hi
  exact hi.2
def wtP (w : Nat → Nat) (s b : Nat) : Nat → Bool := fun o => s.testBit o && decide (gap (w (187 + 5 * b)) (w (187 + 5 * o)) ≤ 3)
def awP (w : Nat → Nat) (V s : Nat) : Nat → Bool := fun b => !V.testBit b || anyN (wtP w s b) (w 1)
def awN (w : Nat → Nat) (V s : Nat) : Bool := allN (awP w V s) (w 1)
theorem C_isWatched {d Ln c s : Nat} {I : Nat → Nat → Int32} {L : Nat → Nat → Int64} {K : Int32 → (Nat → Nat → Int32) → (Nat → Nat → Int64) → Prop} {w : Nat → Nat} {b t : Nat} (hd : 29 ≤ d) (hC : RC w I L) (hO : OKW w) (ht : t < 64) (hb : b < w 1) (k : K (bI (anyN (wtP w t b) (w 1))) I L) : dd_Ev d m_X10_isWatched [.ref 0, .int (nI b), .int (nI t)] (sM Ln I L c s) (dd_RI Ln c s K) := by
  have w1 := hO.1.2.1
  have b1 := (hO.2.2.2.1 b (by omega)).2.1
  refine w_X10_isWatched_0 (by omega) ?_
  have key : ∀ a4, anyN (wtP w t b) 0 = false → dd_Rn d m_X10_isWatched (2, [.ref 0, .int (nI b), .int (nI t), .int (nI 0), a4], [], sM Ln I L c s) (dd_RI Ln c s K) := by
    refine dd_lp (fun i => ∀ a4, anyN (wtP w t b) i = false → dd_Rn d m_X10_isWatched (2, [.ref 0, .int (nI b), .int (nI t), .int (nI i), a4], [], sM Ln I L c s) (dd_RI Ln c s K)) (w 1) ?_ ?_
    · intro a4 q
      refine w_X10_isWatched_2 (by omega) ?_
      rw [hC.boys, nI_leI (by omega) (by omega)]
      rw [q] at k
      exact ⟨fun _ => dd_qi k, fun z => absurd (Nat.le_refl _) z⟩
    · intro i hi ih a4 q
      have c1 := (hO.2.2.2.1 i (by omega)).2.1
      have ti : tn (nI i) = i := nI_clamp (by omega)
      have tb : tn (nI b) = b := nI_clamp (by omega)
      have es : anyN (wtP w t b) (i + 1) = (anyN (wtP w t b) i || wtP w t b i) := rfl
      rw [q, Bool.false_or] at es
      refine w_X10_isWatched_2 (by omega) ?_
      rw [hC.boys, nI_leI (by omega) (by omega), X_bit (by omega), bX_n (by omega), ti, tb, hC.cell (by omega), hC.cell (by omega)]
      simp only [nI_1]
      refine ⟨fun z => absurd z (by omega), fun _ => ⟨fun z => ih _ (by rw [es]; unfold wtP; rw [z]; rfl), fun z => ⟨⟨nI_pos' (by omega), by omega⟩, ⟨nI_pos' (by omega), by omega⟩, ?_⟩⟩⟩
      have zt : t.testBit i = true := by
        cases hz : t.testBit i with
        | true => rfl
        | false => exact absurd hz z
      refine C_apart (by omega) b1 c1 ?_
      have g14 := gap_lt b1 c1
      rw [li_3, nI_ltI (by omega) (by omega)]
      refine ⟨fun z2 => ih _ (by rw [es]; unfold wtP; rw [zt, decide_eq_false (by omega)]; rfl), fun z2 => ?_⟩
      have e : anyN (wtP w t b) (w 1) = true := (anyN_iff _ _).mpr ⟨i, hi, by unfold wtP; rw [zt, decide_eq_true (by omega)]; rfl⟩
      rw [e] at k
      exact dd_qi k
  exact key _ rfl
theorem C_allWatched {d Ln c s : Nat} {I : Nat → Nat → Int32} {L : Nat → Nat → Int64} {K : Int32 → (Nat → Nat → Int32) → (Nat → Nat → Int64) → Prop} {w : Nat → Nat} {V t : Nat} (hd : 30 ≤ d) (hC : RC w I L) (hO : OKW w) (ht : t < 64) (hV : V < 64) (k : K (bI (awN w V t)) I L) : dd_Ev d m_X10_allWatched [.ref 0, .int (nI t), .int (nI V)] (sM Ln I L c s) (dd_RI Ln c s K) := by
  have w1 := hO.1.2.1
  refine w_X10_allWatched_0 (by omega) ?_
  have key : allN (awP w V t) 0 = true → dd_Rn d m_X10_allWatched (2, [.ref 0, .int (nI t), .int (nI V), .int (nI 0)], [], sM Ln I L c s) (dd_RI Ln c s K) := by
    refine dd_lp (fun i => allN (awP w V t) i = true → dd_Rn d m_X10_allWatched (2, [.ref 0, .int (nI t), .int (nI V), .int (nI i)], [], sM Ln I L c s) (dd_RI Ln c s K)) (w 1) ?_ ?_
    · intro q
      refine w_X10_allWatched_2 (by omega) ?_
      rw [hC.boys, nI_leI (by omega) (by omega)]
      unfold awN at k
      rw [q] at k
      exact ⟨fun _ => dd_qi k, fun z => absurd (Nat.le_refl _) z⟩
    · intro i hi ih q
      refine w_X10_allWatched_2 (by omega) ?_
      rw [hC.boys, nI_leI (by omega) (by omega), X_bit (by omega), bX_n (by omega)]
      simp only [nI_1]
      refine ⟨fun z => absurd z (by omega), fun _ => ⟨fun z => ih (by rw [allN, q]; unfold awP; rw [z]; rfl), fun z => ?_⟩⟩
      have zt : V.testBit i = true := by
        cases hz : V.testBit i with
        | true => rfl
        | false => exact absurd hz z
      refine C_isWatched (w := w) (by omega) hC hO ht hi ?_
      rw [bI_z]
      refine ⟨fun z2 => ?_, fun z2 => ih (by rw [allN, q]; unfold awP; rw [zt]; cases hz : anyN (wtP w t i) (w 1) with
        | true => rfl
        | false => exact absurd hz z2)⟩
      have : awN w V t = false := allN_f hi (by unfold awP; rw [zt, z2]; rfl)
      rw [this] at k
      exact dd_qi k
  exact key rfl
theorem gap_sym (a b : Nat) : gap a b = gap b a := by unfold gap; omega
theorem M_allWatched {d Ln c s : Nat} {I : Nat → Nat → Int32} {L : Nat → Nat → Int64} {K : Int32 → (Nat → Nat → Int32) → (Nat → Nat → Int64) → Prop} {w : Nat → Nat} {V t : Nat} (hd : 30 ≤ d) (hR : RM w I) (hO : OKW w) (ht : t < 64) (hV : V < 64) (hv : outV w (nI V)) (hs : subN t V = true) (k : K (bI (awN w V t)) I L) : dd_Ev d m_X11_allWatched [.ref 148, .int (nI t)] (sM Ln I L c s) (dd_RI Ln c s K) := by
  have w1 := hO.1.2.1
  have vb : ∀ i, i < 32 → V.testBit i = true → i < w 1 := by
    intro i hi q
    have := hv i hi
    rw [bX_n hi, q] at this
    have := this.symm
    rw [Bool.and_eq_true] at this
    exact of_decide_eq_true this.1
  have cl : ∀ i, i < w 1 → w (187 + 5 * i) < 64 := fun i hi => (hO.2.2.2.1 i (by omega)).2.1
  refine w_X11_allWatched_0 (by omega) ?_
  have key : ∀ (acc : Int32) (a4 : Value), (∀ i, i < 32 → (bX acc i = true ↔ t.testBit i = true ∨ ∃ o, o < 0 ∧ t.testBit o = true ∧ i < w 1 ∧ gap (w (187 + 5 * o)) (w (187 + 5 * i)) ≤ 3)) → dd_Rn d m_X11_allWatched (4, [.ref 148, .int (nI t), .int acc, .int (nI 0), a4], [], sM Ln I L c s) (dd_RI Ln c s K) := by
    refine dd_lp (fun n => ∀ (acc : Int32) (a4 : Value), (∀ i, i < 32 → (bX acc i = true ↔ t.testBit i = true ∨ ∃ o, o < n ∧ t.testBit o = true ∧ i < w 1 ∧ gap (w (187 + 5 * o)) (w (187 + 5 * i)) ≤ 3)) → dd_Rn d m_X11_allWatched (4, [.ref 148, .int (nI t), .int acc, .int (nI n), a4], [], sM Ln I L c s) (dd_RI Ln c s K)) (w 1) ?_ ?_
    · intro acc a4 ha
      refine w_X11_allWatched_4 (by omega) ?_
      rw [hR.g (by omega), nI_leI (by omega) (by omega)]
      refine ⟨fun _ => ?_, fun z => absurd (Nat.le_refl _) z⟩
      refine M_outOnes (w := w) (by omega) hR hO fun v hv2 => ?_
      rw [outV_eq hv2 hv]
      have e : (nI V &&& (acc ^^^ (-1)) = 0) ↔ awN w V t = true := by
        unfold awN
        rw [allN_iff]
        constructor
        · intro z b hb
          have := congrArg (fun y => bX y b) z
          simp only [bX_and, bX_0] at this
          rw [bX_not _ (by omega), bX_n (by omega)] at this
          unfold awP
          cases hq : V.testBit b with
          | false => rfl
          | true =>
            rw [hq, Bool.true_and, Bool.not_eq_false'] at this
            have q := (ha b (by omega)).mp this
            show anyN (wtP w t b) (w 1) = true
            rw [anyN_iff]
            rcases q with q | ⟨o, ho, q1, q2, q3⟩
            · refine ⟨b, hb, ?_⟩
              unfold wtP
              rw [q, decide_eq_true (by unfold gap; omega)]; rfl
            · refine ⟨o, ho, ?_⟩
              unfold wtP
              rw [q1, decide_eq_true (by rw [gap_sym]; exact q3)]; rfl
        · intro z
          refine bX_ext fun i hi => ?_
          rw [bX_and, bX_not _ hi, bX_n hi, bX_0]
          cases hq : V.testBit i with
          | false => rfl
          | true =>
            have hb := vb i hi hq
            have := z i hb
            unfold awP at this
            rw [hq] at this
            have this : anyN (wtP w t i) (w 1) = true := this
            rw [anyN_iff] at this
            obtain ⟨o, ho, q⟩ := this
            unfold wtP at q
            rw [Bool.and_eq_true] at q
            have : bX acc i = true := (ha i hi).mpr (Or.inr ⟨o, ho, q.1, hb, by rw [gap_sym]; exact of_decide_eq_true q.2⟩)
            rw [this]; rfl
      refine ⟨fun z => ?_, fun z => ?_⟩
      · rw [e.mp z] at k
        exact dd_qi k
      · have : awN w V t = false := by
          cases hq : awN w V t with
          | false => rfl
          | true => exact absurd (e.mpr hq) z
        rw [this] at k
        exact dd_qi k
    · intro n hn ih acc a4 ha
      refine w_X11_allWatched_4 (by omega) ?_
      rw [hR.g (by omega), nI_leI (by omega) (by omega)]
      refine ⟨fun z => absurd z (by omega), fun _ => ?_⟩
      have inner : ∀ (acc : Int32), (∀ i, i < 32 → (bX acc i = true ↔ t.testBit i = true ∨ ∃ o, (o < n ∨ (o = n ∧ i < 0)) ∧ t.testBit o = true ∧ i < w 1 ∧ gap (w (187 + 5 * o)) (w (187 + 5 * i)) ≤ 3)) → dd_Rn d m_X11_allWatched (15, [.ref 148, .int (nI t), .int acc, .int (nI n), .int (nI 0)], [], sM Ln I L c s) (dd_RI Ln c s K) := by
        refine dd_lp (fun j => ∀ (acc : Int32), (∀ i, i < 32 → (bX acc i = true ↔ t.testBit i = true ∨ ∃ o, (o < n ∨ (o = n ∧ i < j)) ∧ t.testBit o = true ∧ i < w 1 ∧ gap (w (187 + 5 * o)) (w (187 + 5 * i)) ≤ 3)) → dd_Rn d m_X11_allWatched (15, [.ref 148, .int (nI t), .int acc, .int (nI n), .int (nI j)], [], sM Ln I L c s) (dd_RI Ln c s K)) (w 1) ?_ ?_
        · intro acc hj
          refine w_X11_allWatched_15 (by omega) ?_
          rw [hR.g (by omega), nI_leI (by omega) (by omega)]
          simp only [nI_1]
          refine ⟨fun _ => ih acc _ (fun i hi => (hj i hi).trans ?_), fun z => absurd (Nat.le_refl _) z⟩
          constructor
          · rintro (q | ⟨o, q1, q2, q3, q4⟩)
            · exact Or.inl q
            · exact Or.inr ⟨o, by omega, q2, q3, q4⟩
          · rintro (q | ⟨o, q1, q2, q3, q4⟩)
            · exact Or.inl q
            · exact Or.inr ⟨o, by omega, q2, q3, q4⟩
        · intro j hj ihj acc ha
          have en : (187 : Int32) + (5 : Int32) * nI n + 0 = nI (187 + 5 * n) := by rw [li_187, li_5, li_0, pk_mul, nI_add, nI_add, Nat.add_zero]
          have ej : (187 : Int32) + (5 : Int32) * nI j + 0 = nI (187 + 5 * j) := by rw [li_187, li_5, li_0, pk_mul, nI_add, nI_add, Nat.add_zero]
          have tn' : tn (nI (187 + 5 * n)) = 187 + 5 * n := nI_clamp (by omega)
          have tj : tn (nI (187 + 5 * j)) = 187 + 5 * j := nI_clamp (by omega)
          refine w_X11_allWatched_15 (by omega) ?_
          rw [hR.g (show 1 < 1371 by omega), nI_leI (by omega) (by omega), X_bit1 (by omega), bX_n (by omega), en, ej, tn', tj, hR.g (show 187 + 5 * n < 1371 by omega), hR.g (show 187 + 5 * j < 1371 by omega)]
          simp only [nI_1]
          rw [show acc ||| 0 = acc from bX_ext (fun i hi => by rw [bX_or, bX_0, Bool.or_false])]
          have stay : ¬ (t.testBit n = true ∧ gap (w (187 + 5 * n)) (w (187 + 5 * j)) ≤ 3) → dd_Rn d m_X11_allWatched (15, [.ref 148, .int (nI t), .int acc, .int (nI n), .int (nI (j + 1))], [], sM Ln I L c s) (dd_RI Ln c s K) := by
            intro ne
            refine ihj acc (fun i hi => (ha i hi).trans ?_)
            constructor
            · rintro (q | ⟨o, q1, q2, q3, q4⟩)
              · exact Or.inl q
              · exact Or.inr ⟨o, by omega, q2, q3, q4⟩
            · rintro (q | ⟨o, q1, q2, q3, q4⟩)
              · exact Or.inl q
              · by_cases e : o = n ∧ i = j
                · obtain ⟨e1, e2⟩ := e
                  subst e1
                  subst e2
                  exact absurd ⟨q2, q4⟩ ne
                · exact Or.inr ⟨o, by omega, q2, q3, q4⟩
          refine ⟨fun z => absurd z (by omega), fun _ => ⟨fun z => ⟨⟨nI_pos' (by omega), by omega⟩, ⟨nI_pos' (by omega), by omega⟩, ?_⟩, fun z => stay (fun q => z q.1)⟩⟩
          refine M_gapOf (by omega) (cl n hn) (cl j hj) ?_
          have g14 := gap_lt (cl n hn) (cl j hj)
          rw [li_3, nI_ltI (by omega) (by omega)]
          refine ⟨fun z2 => stay (fun q => by have := q.2; omega), fun z2 => ?_⟩
          refine ihj _ (fun i hi => ?_)
          rw [bX_or, bX_one (by omega) hi, Bool.or_eq_true, decide_eq_true_eq, ha i hi]
          constructor
          · rintro ((q | ⟨o, q1, q2, q3, q4⟩) | q)
            · exact Or.inl q
            · exact Or.inr ⟨o, by omega, q2, q3, q4⟩
            · subst q
              exact Or.inr ⟨n, by omega, z, hj, by omega⟩
          · rintro (q | ⟨o, q1, q2, q3, q4⟩)
            · exact Or.inl (Or.inl q)
            · by_cases e : i = j
              · exact Or.inr e
              · exact Or.inl (Or.inr ⟨o, by omega, q2, q3, q4⟩)
      refine inner acc (fun i hi => (ha i hi).trans ?_)
      constructor
      · rintro (q | ⟨o, q1, q2, q3, q4⟩)
        · exact Or.inl q
        · exact Or.inr ⟨o, by omega, q2, q3, q4⟩
      · rintro (q | ⟨o, q1, q2, q3, q4⟩)
        · exact Or.inl q
        · exact Or.inr ⟨o, by omega, q2, q3, q4⟩
  refine key (nI t) _ (fun i hi => ?_)
  rw [bX_n hi]
  constructor
  · exact Or.inl
  · rintro (q | ⟨o, q1, _⟩)
    · exact q
    · exact absurd q1 (Nat.not_lt_zero o)
/-- the best of the sets, up and down -/
def wcA (gd : Nat → Bool) (V : Nat) : Nat → Nat := lpf (fun i x => if pop6 i < pop6 x ∧ gd i = true then i else x) V
def wdA (gd : Nat → Bool) (V : Nat) : Nat → Nat := lpf (fun i x => if gd (V - i) = true ∧ pop6 (V - i) ≤ pop6 x then V - i else x) V
theorem wcA_inv {gd : Nat → Bool} {V : Nat} : ∀ i, (wcA gd V i = V ∨ (gd (wcA gd V i) = true ∧ wcA gd V i < i)) ∧ (∀ t, t < i → gd t = true → pop6 (wcA gd V i) ≤ pop6 t ∧ (wcA gd V i = V ∨ t < wcA gd V i → wcA gd V i = V ∨ pop6 (wcA gd V i) < pop6 t)) := by
  intro i
  induction i with
  | zero => exact ⟨Or.inl rfl, fun t ht => absurd ht (Nat.not_lt_zero t)⟩
  | succ i ih =>
    obtain ⟨h1, h2⟩ := ih
    have e : wcA gd V (i + 1) = if pop6 i < pop6 (wcA gd V i) ∧ gd i = true then i else wcA gd V i := rfl
    rw [e]
    by_cases q : pop6 i < pop6 (wcA gd V i) ∧ gd i = true
    · rw [if_pos q]
      refine ⟨Or.inr ⟨q.2, by omega⟩, fun t ht hg => ?_⟩
      by_cases z : t = i
      · subst z; exact ⟨Nat.le_refl _, fun z => by omega⟩
      · have := (h2 t (by omega) hg).1
        exact ⟨by omega, fun _ => Or.inr (by omega)⟩
    · rw [if_neg q]
      refine ⟨?_, fun t ht hg => ?_⟩
      · rcases h1 with z | z
        · exact Or.inl z
        · exact Or.inr ⟨z.1, by omega⟩
      · by_cases z : t = i
        · subst z
          have : ¬ pop6 t < pop6 (wcA gd V t) := fun z => q ⟨z, hg⟩
          refine ⟨by omega, fun z => ?_⟩
          rcases z with z | z
          · exact Or.inl z
          · rcases h1 with z2 | z2
            · exact Or.inl z2
            · exact absurd z2.2 (by omega)
        · exact h2 t (by omega) hg
theorem wdA_inv {gd : Nat → Bool} {V : Nat} : ∀ i, i ≤ V + 1 → (wdA gd V i = V ∨ (gd (wdA gd V i) = true ∧ wdA gd V i ≤ V)) ∧ (∀ t, V - i < t ∨ i = V + 1 → t ≤ V → gd t = true → pop6 (wdA gd V i) ≤ pop6 t ∧ (t < wdA gd V i → pop6 (wdA gd V i) < pop6 t)) := by
  intro i
  induction i with
  | zero => intro _; exact ⟨Or.inl rfl, fun t ht h2 => by omega⟩
  | succ i ih =>
    intro hi
    obtain ⟨h1, h2⟩ := ih (by omega)
    have e : wdA gd V (i + 1) = if gd (V - i) = true ∧ pop6 (V - i) ≤ pop6 (wdA gd V i) then V - i else wdA gd V i := rfl
    rw [e]
    by_cases q : gd (V - i) = true ∧ pop6 (V - i) ≤ pop6 (wdA gd V i)
    · rw [if_pos q]
      refine ⟨Or.inr ⟨q.1, by omega⟩, fun t ht h3 hg => ?_⟩
      by_cases z : t = V - i
      · subst z; exact ⟨Nat.le_refl _, fun z => by omega⟩
      · have := (h2 t (by omega) h3 hg).1
        exact ⟨by omega, fun z => by omega⟩
    · rw [if_neg q]
      refine ⟨h1, fun t ht h3 hg => ?_⟩
      by_cases z : t = V - i
      · subst z
        have : ¬ pop6 (V - i) ≤ pop6 (wdA gd V i) := fun z => q ⟨hg, z⟩
        exact ⟨by omega, fun _ => by omega⟩
      · exact h2 t (by omega) h3 hg
theorem wcd {gd : Nat → Bool} {V : Nat} (hV : V < 64) (hg : ∀ t, gd t = true → t < 64 → subN t V = true) : wcA gd V 64 = wdA gd V (V + 1) := by
  obtain ⟨c1, c2⟩ := wcA_inv (gd := gd) (V := V) 64
  obtain ⟨d1, d2⟩ := wdA_inv (gd := gd) (V := V) (V + 1) (Nat.le_refl _)
  generalize wcA gd V 64 = B at *
  generalize wdA gd V (V + 1) = D at *
  by_cases qD : D = V
  · by_cases qB : B = V
    · rw [qB, qD]
    · rcases c1 with z | ⟨z1, z2⟩
      · exact absurd z qB
      · rcases sub_pop V hV B z2 (hg B z1 z2) with y | ⟨y1, y2⟩
        · exact absurd y qB
        · have := (d2 B (Or.inr rfl) (by omega) z1).1
          rw [qD] at this
          omega
  · rcases d1 with z | ⟨z1, z2⟩
    · exact absurd z qD
    · rcases sub_pop V hV D (by omega) (hg D z1 (by omega)) with y | ⟨y1, y2⟩
      · exact absurd y qD
      · have e1 := c2 D (by omega) z1
        have qB : ¬ B = V := fun z => by have := e1.1; rw [z] at this; omega
        rcases c1 with z | ⟨x1, x2⟩
        · exact absurd z qB
        · rcases sub_pop V hV B x2 (hg B x1 x2) with y | ⟨u1, u2⟩
          · exact absurd y qB
          · have e2 := d2 B (Or.inr rfl) (by omega) x1
            have a1 := e1.1
            have a2 := e2.1
            by_cases l1 : B < D
            · have := e2.2 l1; omega
            · by_cases l2 : D < B
              · rcases e1.2 (Or.inr l2) with y | y
                · exact absurd y qB
                · omega
              · omega
theorem A_watch {d Ln c s : Nat} {I0 I : Nat → Nat → Int32} {L : Nat → Nat → Int64} {w : Nat → Nat} {im : Option (Nat → Nat)} {na od : Nat} {A : Nat → Nat → Nat} {tp : Nat → Nat} {tl : Nat} {fa : Option Nat} (hd : 60 ≤ d) (h : INV I0 w im na od A tp tl fa I L) : PIw d m_X10_watch [.ref 0] m_X11_watch [.ref 148] I0 Ln c s I L := by
  have hO := h.1.1
  have hC := h.2.2.1
  have w1 := hO.1.2.1
  obtain ⟨V, hV, hv⟩ := outV_ex (u := w) w1
  let gd : Nat → Bool := fun t => subN t V && awN w V t
  have eqv : wcA gd V 64 = wdA gd V (V + 1) := wcd hV (fun t ht _ => by
    have : (subN t V && awN w V t) = true := ht
    rw [Bool.and_eq_true] at this
    exact this.1)
  refine PIw.q h (nI (wcA gd V 64)) ?_ ?_
  · intro K g
    refine w_X10_watch_0 (by omega) ?_
    refine w_X8_lostBoys_0 (by omega) (dd_qi ?_)
    rw [hC.boys, outV_eq (hC.outV w1) hv]
    have bB : ∀ i, i ≤ 64 → wcA gd V i < 64 := by
      intro i hi
      rcases (wcA_inv (gd := gd) (V := V) i).1 with z | z
      · omega
      · have := z.2; omega
    have key : ∀ a4, dd_Rn d m_X10_watch (12, [.ref 0, .int (nI V), .int (nI (wcA gd V 0)), .int (nI 0), a4], [], sM Ln I L c s) (dd_RI Ln c s K) := by
      refine dd_lp (fun i => ∀ a4, dd_Rn d m_X10_watch (12, [.ref 0, .int (nI V), .int (nI (wcA gd V i)), .int (nI i), a4], [], sM Ln I L c s) (dd_RI Ln c s K)) 64 ?_ ?_
      · intro a4
        refine w_X10_watch_12 (by omega) ?_
        rw [li_64, nI_leI (by omega) (by omega)]
        exact ⟨fun _ => dd_qi (g I L (FC.refl I L)), fun z => absurd (Nat.le_refl _) z⟩
      · intro i hi ih a4
        have p1 := pop6_le i
        have p2 := pop6_le (wcA gd V i)
        have es : wcA gd V (i + 1) = if pop6 i < pop6 (wcA gd V i) ∧ gd i = true then i else wcA gd V i := rfl
        rw [es] at ih
        have ge : gd i = (subN i V && awN w V i) := rfl
        refine w_X10_watch_12 (by omega) ?_
        rw [li_64, nI_leI (by omega) (by omega)]
        simp only [nI_1]
        refine ⟨fun z => absurd z (by omega), fun _ => ?_⟩
        refine J_bit (by omega) hi ?_
        refine J_bit (by omega) (bB i (by omega)) ?_
        rw [nI_leI (by omega) (by omega), sub_I V hV i hi]
        refine ⟨fun z => ?_, fun z => ⟨fun z2 => ?_, fun z2 => ?_⟩⟩
        · rw [if_neg (fun q => by have := q.1; omega)] at ih
          exact ⟨fun _ => ih _, fun _ => ih _⟩
        · refine C_allWatched (w := w) (by omega) hC hO hi hV ?_
          rw [bI_z]
          refine ⟨fun z3 => ?_, fun z3 => ?_⟩
          · rw [if_neg (fun q => by have := q.2; rw [ge, z3, Bool.and_false] at this; cases this)] at ih
            exact ih _
          · rw [if_pos ⟨by omega, by rw [ge, z2, Bool.true_and]; cases hz : awN w V i with
              | true => rfl
              | false => exact absurd hz z3⟩] at ih
            exact ih _
        · rw [if_neg (fun q => by have := q.2; rw [ge, Bool.and_eq_true] at this; exact z2 this.1)] at ih
          exact ih _
    exact key _
  · intro I1 L1 h1 K g
    have hR := h1.2.1
    refine w_X11_watch_0 (by omega) ?_
    have fj := FM.th I1 0
    have t0 := thr0 (I := I1) (v := 0)
    have hR1 : RM w (dd_u I1 148 (upd (I1 148) 0 0)) := hR.of (dd_un (by decide))
    generalize dd_u I1 148 (upd (I1 148) 0 0) = J at *
    refine M_outOnes (w := w) (by omega) hR1 hO fun v hv2 => ?_
    rw [outV_eq hv2 hv]
    have bB : ∀ i, i ≤ V + 1 → wdA gd V i < 64 := by
      intro i hi
      rcases (wdA_inv (gd := gd) (V := V) i hi).1 with z | z
      · omega
      · have := z.2; omega
    have key : dd_Rn d m_X11_watch (14, [.ref 148, .int (nI V), .int (nI (wdA gd V 0)), .int (if 0 ≤ V then nI (V - 0) else -1)], [], sM Ln J L1 c s) (dd_RI Ln c s K) := by
      refine dd_lp (fun i => dd_Rn d m_X11_watch (14, [.ref 148, .int (nI V), .int (nI (wdA gd V i)), .int (if i ≤ V then nI (V - i) else -1)], [], sM Ln J L1 c s) (dd_RI Ln c s K)) (V + 1) ?_ ?_
      · refine w_X11_watch_14 (by omega) ?_
        rw [if_neg (by omega)]
        exact ⟨fun _ => mqJ hR1 fj t0 (by rw [eqv]) g, fun z => absurd (by decide) z⟩
      · intro i hi ih
        have p1 := pop6_le (V - i)
        have p2 := pop6_le (wdA gd V i)
        have es : wdA gd V (i + 1) = if gd (V - i) = true ∧ pop6 (V - i) ≤ pop6 (wdA gd V i) then V - i else wdA gd V i := rfl
        rw [es] at ih
        have ge : gd (V - i) = (subN (V - i) V && awN w V (V - i)) := rfl
        have en : nI (V - i) + (-1) = if i + 1 ≤ V then nI (V - (i + 1)) else -1 := by
          by_cases q : i + 1 ≤ V
          · rw [if_pos q, show V - i = (V - (i + 1)) + 1 by omega]
            exact nI_dec _
          · rw [if_neg q, show V - i = 0 by omega]
            decide
        refine w_X11_watch_14 (by omega) ?_
        rw [if_pos (by omega), sub_I V hV (V - i) (by omega), en]
        refine ⟨fun z => absurd z (nI_pos (by omega)), fun _ => ⟨fun z => ?_, fun z => ?_⟩⟩
        · refine J_bit (by omega) (by omega) ?_
          refine J_bit (by omega) (bB i (by omega)) ?_
          rw [nI_ltI (by omega) (by omega)]
          refine ⟨fun z2 => ?_, fun z2 => ?_⟩
          · rw [if_neg (fun q => by have := q.2; omega)] at ih
            exact ih
          · refine M_allWatched (w := w) (V := V) (by omega) hR1 hO (by omega) hV hv z ?_
            rw [bI_z]
            refine ⟨fun z3 => ?_, fun z3 => ?_⟩
            · rw [if_neg (fun q => by have := q.1; rw [ge, z3, Bool.and_false] at this; cases this)] at ih
              exact ih
            · rw [if_pos ⟨by rw [ge, z, Bool.true_and]; cases hz : awN w V (V - i) with
                | true => rfl
                | false => exact absurd hz z3, by omega⟩] at ih
              exact ih
        · rw [if_neg (fun q => by have := q.1; rw [ge, Bool.and_eq_true] at this; exact z this.1)] at ih
          exact ih
    rw [if_pos (Nat.zero_le _), Nat.sub_zero] at key
    exact key
