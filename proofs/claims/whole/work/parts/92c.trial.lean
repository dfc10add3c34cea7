/-! trial, span -/
theorem PW.i {d mC : Nat} {aC : List Value} {mM : Nat} {aM : List Value} {I0 : Nat → Nat → Int32} {Ln c s : Nat} {I : Nat → Nat → Int32} {L : Nat → Nat → Int64} {w : Nat → Nat} {im : Option (Nat → Nat)} {na od : Nat} {A : Nat → Nat → Nat} {tp : Nat → Nat} {tl : Nat} {fa : Option Nat} (k v : Int32) (hC : ∀ K : Int32 → (Nat → Nat → Int32) → (Nat → Nat → Int64) → Nat → Nat → Prop, (∀ I1 L1 c1 s1, cs1 c s c1 s1 → INV I0 w im na od A tp tl fa I1 L1 → (k = 0 → L1 163 0 = v.toInt64) → K k I1 L1 c1 s1) → dd_Ev d mC aC (sM Ln I L c s) (dd_RJ Ln c s K)) (hM : ∀ I1 L1 c1 s1, INV I0 w im na od A tp tl fa I1 L1 → MQw d mM aM w k v Ln c1 s1 I1 L1) : PW d mC aC mM aM I0 Ln c s I L := by
  intro G g
  refine hC _ fun I1 L1 c1 s1 e1 h1 o1 => ⟨h1.2.2.2.2.2.2.2.2, ?_⟩
  refine hM I1 L1 c1 s1 h1 _ fun I2 x2 r2 f2 t2 v2 => ?_
  refine g k x2 I2 L1 c1 s1 e1 t2 (fun q => ?_) ⟨w, im, na, od, A, tp, tl, fa, h1.qM f2 r2⟩
  rw [v2 q]
  exact o1 q
/-- the wood was changed and brought back -/
theorem INV.same {I0 : Nat → Nat → Int32} {w : Nat → Nat} {im : Option (Nat → Nat)} {na od : Nat} {A : Nat → Nat → Nat} {tp : Nat → Nat} {tl : Nat} {fa : Option Nat} {I I' : Nat → Nat → Int32} {L L' : Nat → Nat → Int64} (h : INV I0 w im na od A tp tl fa I L) (rc : RC w I' L') (f : ∀ k, (k = 0 ∨ (17 ≤ k ∧ k < 25) ∨ k = 26 ∨ (29 ≤ k ∧ k < 130) ∨ 148 ≤ k) → I' k = I k) (f1 : I' 25 1 = I 25 1) (f2 : I' 25 2 = I 25 2) (fL : ∀ k, 17 ≤ k → k < 129 → L' k = L k) : INV I0 w im na od A tp tl fa I' L' := by
  obtain ⟨h1, h2, h3, h4, ⟨i1, i2, i3⟩, ⟨a1, a2, a3, a4, a5, a6⟩, ⟨t1, t2, t3, t4, t5⟩, ⟨q1, q2⟩, h9⟩ := h
  refine ⟨h1, h2.of (f 149 (by omega)), rc, h4.of f1 f2 (f 26 (by omega)), ⟨?_, ?_, ?_⟩, ⟨a1, a2, ?_, ?_, ?_, ?_⟩, ⟨t1, t2, ?_, ?_, ?_⟩, ⟨?_, ?_⟩, ?_⟩
  · rw [f 148 (by omega)]; exact i1
  · rw [f 0 (by omega)]; exact i2
  · intro wi hw
    obtain ⟨j1, j2, j3, j4⟩ := i3 wi hw
    refine ⟨j1, fun j hj => by rw [f 150 (by omega)]; exact j2 j hj, j3.of (fun j _ _ => f j (by omega)) (fL 17 (by omega) (by omega)), ?_⟩
    unfold RLk
    rw [f 29 (by omega), f (29 + 1) (by omega)]
    exact j4
  · rw [f 148 (by omega)]; exact a3
  · rw [f 31 (by omega)]; exact a4
  · rw [f 31 (by omega)]; exact a5
  · intro i hi
    obtain ⟨j1, j2, j3, j4⟩ := a6 i hi
    exact ⟨j1, j2, fun j hj => by rw [f 153 (by omega)]; exact j3 j hj, j4.of (fun j _ _ => f j (by omega)) (fL _ (by omega) (by omega))⟩
  · rw [f 148 (by omega)]; exact t3
  · rw [f 0 (by omega)]; exact t4
  · intro j hj
    rw [f 129 (by omega), f 154 (by omega)]
    exact t5 j hj
  · rw [f 148 (by omega)]; exact q1
  · rw [f 0 (by omega)]; exact q2
  · intro k hk
    rw [f k (by omega)]
    exact h9 k hk
/-- who is in, as a set -/
def inV (u : Nat → Nat) (v : Int32) : Prop := ∀ i, i < 32 → bX v i = (decide (i < u 1) && decide (u (187 + 5 * i + 3) = 1))
theorem inV_eq {u : Nat → Nat} {v v2 : Int32} (h : inV u v) (h2 : inV u v2) : v = v2 := bX_ext (fun i hi => by rw [h i hi, h2 i hi])
theorem lowX : ∀ n, n < 7 → ∀ i, i < 32 → bX ((1 : Int32) <<< (nI n &&& 31) - 1) i = decide (i < n) := by decide +kernel
theorem M_inOnes {d Ln c s : Nat} {I : Nat → Nat → Int32} {L : Nat → Nat → Int64} {K : Int32 → (Nat → Nat → Int32) → (Nat → Nat → Int64) → Prop} {w : Nat → Nat} (hd : 29 ≤ d) (hR : RM w I) (hO : OKW w) (k : ∀ v, inV w v → K v I L) : dd_Ev d m_X11_inOnes [.ref 148] (sM Ln I L c s) (dd_RI Ln c s K) := by
  refine w_X11_inOnes_0 (by omega) ?_
  refine M_outOnes (w := w) (by omega) hR hO fun v hv => ?_
  refine dd_qi (k _ fun i hi => ?_)
  rw [hR.g (by omega), bX_and, lowX _ (by have := hO.1.2.1; omega) i hi, bX_not _ hi, hv i hi]
  cases decide (i < w 1) <;> cases decide (w (187 + 5 * i + 3) = 1) <;> rfl
theorem RW.inV {w : Nat → Nat} {I : Nat → Nat → Int32} {L : Nat → Nat → Int64} (h : RW w I L 1) (z : zbs w) (h1 : w 1 ≤ 6) : inV w (I 1 12) := by
  intro i hi
  rw [h.isin hi]
  by_cases q : i < w 1
  · rw [decide_eq_true q, decide_eq_true (show i < 6 by omega)]
  · rw [decide_eq_false q, Bool.false_and]
    by_cases q6 : i < 6
    · rw [decide_eq_false (z i (by omega) q6), Bool.and_false]
    · rw [decide_eq_false q6, Bool.false_and]
def msk (p : Nat → Bool) : Nat → Int32 := lpf (fun i a => if p i = true then a ||| ((1 : Int32) <<< (nI i &&& 31)) else a) 0
theorem msk_b {p : Nat → Bool} : ∀ {n : Nat}, n ≤ 32 → ∀ i, i < 32 → bX (msk p n) i = (decide (i < n) && p i) := by
  intro n
  induction n with
  | zero =>
    intro _ i hi
    have e : msk p 0 = 0 := rfl
    rw [e, bX_0, decide_eq_false (Nat.not_lt_zero i), Bool.false_and]
  | succ n ih =>
    intro hn i hi
    have e : msk p (n + 1) = if p n = true then msk p n ||| ((1 : Int32) <<< (nI n &&& 31)) else msk p n := rfl
    rw [e]
    have ih := ih (by omega) i hi
    by_cases q : i = n
    · subst q
      rw [decide_eq_false (Nat.lt_irrefl i), Bool.false_and] at ih
      rw [decide_eq_true (Nat.lt_succ_self i), Bool.true_and]
      by_cases z : p i = true
      · rw [if_pos z, bX_or, ih, bX_one (by omega) hi, decide_eq_true rfl, z]; rfl
      · rw [if_neg z, ih]
        cases hp : p i with
        | true => exact absurd hp z
        | false => rfl
    · have ed : decide (i < n + 1) = decide (i < n) := decide_eq_decide.mpr (by omega)
      rw [ed, ← ih]
      split
      · rw [bX_or, bX_one (by omega) hi, decide_eq_false q, Bool.or_false]
      · rfl
theorem small_of {x : Int32} {k : Nat} (hk : k ≤ 32) (h : ∀ i, k ≤ i → i < 32 → bX x i = false) : ∃ m, m < 2 ^ k ∧ x = nI m := by
  obtain ⟨m, hm, rfl⟩ := i32_of x
  refine ⟨m, Nat.lt_pow_two_of_testBit _ fun i hi => ?_, rfl⟩
  by_cases q : i < 32
  · rw [← bX_n q]; exact h i hi q
  · exact Nat.testBit_lt_two_pow (Nat.lt_of_lt_of_le hm (Nat.pow_le_pow_right (by decide) (by omega)))
theorem inV_ex {u : Nat → Nat} (h1 : u 1 ≤ 6) : ∃ m, m < 64 ∧ inV u (nI m) := by
  have hb := fun i hi => msk_b (p := fun i => decide (i < u 1) && decide (u (187 + 5 * i + 3) = 1)) (n := 6) (by omega) i hi
  obtain ⟨m, hm, e⟩ := small_of (x := msk (fun i => decide (i < u 1) && decide (u (187 + 5 * i + 3) = 1)) 6) (k := 6) (by omega) (fun i hi h32 => by rw [hb i h32, decide_eq_false (by omega), Bool.false_and])
  refine ⟨m, hm, fun i hi => ?_⟩
  rw [← e, hb i hi]
  by_cases q : i < 6
  · rw [decide_eq_true q, Bool.true_and]
  · rw [decide_eq_false q, decide_eq_false (show ¬ i < u 1 by omega)]; rfl
theorem vI_101 {a : Int32} : vld a 101 → ∃ n, n ≤ 100 ∧ a = nI n := fun h => by
  obtain ⟨n, hn, e⟩ := vld_i (by omega) h
  exact ⟨n, by omega, e⟩
theorem FRL {A : List Nat} {I I' : Nat → Nat → Int32} (h : FR 25 A [3, 4] I I') (hA : ∀ x, x ∈ A → x ∈ [1, 2, 3, 4, 5, 6, 7, 8, 133, 134, 135]) : ∀ k, (k = 0 ∨ (9 ≤ k ∧ k < 25) ∨ (26 ≤ k ∧ k < 133) ∨ 136 ≤ k) → I' k = I k := by
  intro k hk
  refine h.1 k (fun q => ?_) (by omega)
  have := hA k q
  simp only [List.mem_cons, List.not_mem_nil, or_false] at this
  omega
theorem A_trial {d Ln c s : Nat} {I0 I : Nat → Nat → Int32} {L : Nat → Nat → Int64} {w : Nat → Nat} {im : Option (Nat → Nat)} {na od : Nat} {A : Nat → Nat → Nat} {tp : Nat → Nat} {tl : Nat} {fa : Option Nat} (hd : 60 ≤ d) (h : INV I0 w im na od A tp tl fa I L) (a a2 : Int32) : PW d m_L_trial [.ref 0, .int a, .int a2, .ref 163] m_X11_trial [.ref 148, .int a, .int a2] I0 Ln c s I L := by
  have hO := h.1.1
  have hC := h.2.2.1
  have w1 := hO.1.2.1
  have w9 := hO.1.2.2.2.2.2.2.2.2.1
  by_cases hv : vld a 101
  · obtain ⟨n, hn, rfl⟩ := vI_101 hv
    have gU := GOOD_go (cm := false) h.1 n
    have sU := (goA_ok hO (cm := false) n).2
    have u1 : (goA false w n).1 1 = w 1 := sU 1 (by omega)
    obtain ⟨x', _, hx⟩ := inV_ex (u := (goA false w n).1) (by omega)
    generalize nI x' = x at hx
    refine PW.i (w := w) (im := im) (na := na) (od := od) (A := A) (tp := tp) (tl := tl) (fa := fa) 0 (if a2 = 0 then x else nI (badA (goA false w n).1 ((goA false w n).1 1))) ?_ ?_
    · intro K g
      refine w_L_trial_0 (by omega) ?_
      refine w_X10_trial_0 (by omega) (rqL (m := 100) rfl (by omega) (fun z => absurd hv z) fun _ => ?_)
      refine C_copyFrom (w := w) (by omega) (Or.inr ⟨rfl, Or.inl rfl⟩) hC w9 fun I1 L1 r1 f1 l1 => ?_
      have hC1 : RC w I1 L1 := hC.of (fun j _ _ => f1 j (by omega)) (l1 1 (by omega))
      have hL1 : RLw w I1 := h.2.2.2.1.of (by rw [f1 25 (by omega)]) (by rw [f1 25 (by omega)]) (f1 26 (by omega))
      refine C_beatOn (by omega) hC1 hO hL1 h.1.2.1 (by omega) fun I2 r2 f2 => ?_
      have g2 := FRL f2 (by decide)
      have r9 : RW w I2 L1 9 := r1.of (fun j _ _ => g2 j (by omega)) rfl
      have e12 : I2 1 12 = x := inV_eq (r2.inV gU.2.2.2.2 (by omega)) hx
      have tail : ∀ v, v = (if a2 = 0 then x else nI (badA (goA false w n).1 ((goA false w n).1 1))) → dd_Ev (d - 1 - 1) m_X8_copyFrom [.ref 1, .ref 9] (sM Ln I2 L1 c s) (dd_RV Ln c s (fun I3 L3 => dd_TI Ln c s (fun x1 I1 L1 => dd_RJ Ln c s K (none, .int 0, sM Ln I1 (dd_u L1 163 (vp_updL (L1 163) 0 x1.toInt64)) c s)) (fun E1 I1 L1 => (E1 = 0 ∧ dd_RJ Ln c s K (none, .int 1, sM Ln I1 L1 (c + 1) (s + 6)))) (none, .int v, sM Ln I3 L3 c s))) := by
        intro v hv
        refine C_copyFrom (w := w) (by omega) (Or.inl ⟨rfl, Or.inl rfl⟩) r9 w9 fun I3 L3 r3 f3 l3 => ?_
        refine dd_qT (dd_qJ (g _ _ c s (cs1r c s) ?_ (fun _ => by rw [← hv]; exact outL)))
        refine h.same ?_ ?_ ?_ ?_ ?_
        · exact r3.of (fun _ _ _ => rfl) (dd_un (by omega))
        · intro k hk
          rw [f3 k (by omega), g2 k (by omega), f1 k (by omega)]
        · rw [f3 25 (by omega), f2.2 1 (by decide), f1 25 (by omega)]
        · rw [f3 25 (by omega), f2.2 2 (by decide), f1 25 (by omega)]
        · intro k k1 k2
          rw [dd_un (by omega), l3 k (by omega), l1 k (by omega)]
      refine ⟨fun z => ?_, fun z => ?_⟩
      · rw [e12]
        exact tail x (by rw [if_pos z])
      · refine C_badOfAll (by omega) r2 gU.1 ?_
        exact tail _ (by rw [if_neg z])
    · intro I1 L1 c1 s1 h1 K g
      have hR := h1.2.1
      refine w_X11_trial_0 (by omega) (rqN (m := 100) rfl (by omega) (fun z => absurd hv z) fun _ => ?_)
      have hR1 : RM w (dd_u I1 148 (upd (I1 148) 0 0)) := hR.of (dd_un (by decide))
      have fj := FM.th I1 0
      have t0 : dd_u I1 148 (upd (I1 148) 0 0) 148 0 = 0 := thr0
      generalize dd_u I1 148 (upd (I1 148) 0 0) = J at *
      refine M_keepsAll (w := w) (by omega) hR1 fun f hf => ?_
      refine M_goesOn (cm := false) (w := w) (by omega) (hR1.of (dd_un (by decide))) hO (by omega) fun I3 r3 f3 => ?_
      have e152 : ∀ j, j < 522 → I3 152 j = nI (w j) := fun j hj => by
        rw [f3.1 152 (by decide) (by decide), dd_us]; exact hf j hj
      have tail : ∀ v, v = (if a2 = 0 then x else nI (badA (goA false w n).1 ((goA false w n).1 1))) → dd_Ev (d - 1) m_X11_bringsBack [.ref 148] (sM Ln I3 L1 c1 s1) (dd_RV Ln c1 s1 (fun I4 L4 => dd_RI Ln c1 s1 K (none, .int v, sM Ln I4 L4 c1 s1))) := by
        intro v hv
        refine M_bringsBack (w := (goA false w n).1) (w0 := w) (by omega) r3 e152 (fun j hj => sU j (by omega)) fun f4 r4 => ?_
        refine mqJ r4 ?_ ?_ hv g
        · refine fj.trans (FM.fr (A := [149, 152, 156]) (B := [18]) ?_ (by decide) (by decide))
          exact (((FR.refl J).u (by decide) (by decide)).trans (f3.mono (by decide) (by decide))).u (by decide) (by decide)
        · rw [dd_un (by decide), f3.2 0 (by decide), dd_un (by decide)]; exact t0
      refine ⟨fun z => ?_, fun z => ?_⟩
      · refine M_inOnes (w := (goA false w n).1) (by omega) r3 gU.1 fun v hv2 => ?_
        exact tail v (by rw [if_pos z]; exact inV_eq hv2 hx)
      · refine M_badOfAll (by omega) r3 gU.1 ?_
        exact tail _ (by rw [if_neg z])
  · refine PW.q h _ 0 (WR1 (e1 := 0) (o := some 0) (w_L_trial_0 (by omega)) (Or.inr rfl) ?_) ?_
    · intro K T g1 g2
      exact w_X10_trial_0 (by omega) (rqL (m := 100) rfl (by omega) (fun _ => dd_qX (g2 0 rfl)) fun z => absurd z hv)
    · intro I1 L1 c1 s1 h1 K g
      have hR := h1.2.1
      refine w_X11_trial_0 (by omega) ?_
      simp only [dd_u_u, upd_uu]
      exact rqN (m := 100) rfl (by omega) (fun _ => mqT hR (by decide) g) fun z => absurd z hv
