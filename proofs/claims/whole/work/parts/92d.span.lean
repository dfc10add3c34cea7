/-! span -/
def pop6 (m : Nat) : Nat := m % 2 + m / 2 % 2 + m / 4 % 2 + m / 8 % 2 + m / 16 % 2 + m / 32 % 2
theorem pop6_le (m : Nat) : pop6 m ≤ 6 := by unfold pop6; omega
theorem J_bit {d Ln c s : Nat} {I : Nat → Nat → Int32} {L : Nat → Nat → Int64} {K : Int32 → (Nat → Nat → Int32) → (Nat → Nat → Int64) → Prop} {m : Nat} (hd : 28 ≤ d) (hm : m < 64) (k : K (nI (pop6 m)) I L) : dd_Ev d m_J6_bitCount_0f7a4 [.int (nI m)] (sM Ln I L c s) (dd_RI Ln c s K) := by
  refine w_J6_bitCount_0f7a4_0 hd (dd_qI ?_ k)
  clear k
  revert hm
  revert m
  decide +kernel
/-- how many are in at the end, by a seed -/
def isCnt (w : Nat → Nat) (n sd v : Nat) : Prop := ∃ m, m < 64 ∧ inV (goA false (upw w 10 sd) n).1 (nI m) ∧ v = pop6 m
theorem nI_inj {a b : Nat} (ha : a < 2 ^ 30) (hb : b < 2 ^ 30) (h : nI a = nI b) : a = b := (nI_eq (by omega) (by omega)).mp h
theorem A_span {d Ln c s : Nat} {I0 I : Nat → Nat → Int32} {L : Nat → Nat → Int64} {w : Nat → Nat} {im : Option (Nat → Nat)} {na od : Nat} {A : Nat → Nat → Nat} {tp : Nat → Nat} {tl : Nat} {fa : Option Nat} (hd : 60 ≤ d) (h : INV I0 w im na od A tp tl fa I L) (a a2 : Int32) : PW d m_L_span [.ref 0, .int a, .int a2, .ref 163] m_X11_span [.ref 148, .int a, .int a2] I0 Ln c s I L := by
  have hO := h.1.1
  have hC := h.2.2.1
  have w1 := hO.1.2.1
  have w9 := hO.1.2.2.2.2.2.2.2.2.1
  by_cases hv : vld a 101
  · obtain ⟨n, hn, rfl⟩ := vI_101 hv
    have gS : ∀ i, i < 6 → GOOD (upw w 10 (i + 1)) := fun i hi => GOOD_up h.1 (okW_s hO (by omega) (by omega) (by omega)) (by omega) (by omega) (by omega) (by omega) (by omega) (fun b => by omega)
    have gU : ∀ i, i < 6 → GOOD (goA false (upw w 10 (i + 1)) n).1 := fun i hi => GOOD_go (cm := false) (gS i hi) n
    have sU : ∀ i, i < 6 → stat (upw w 10 (i + 1)) (goA false (upw w 10 (i + 1)) n).1 := fun i hi => (goA_ok (gS i hi).1 (cm := false) n).2
    have ex : ∃ M : Nat → Nat, ∀ i, i < 6 → M i < 64 ∧ inV (goA false (upw w 10 (i + 1)) n).1 (nI (M i)) := by
      have : ∀ i, ∃ m, i < 6 → m < 64 ∧ inV (goA false (upw w 10 (i + 1)) n).1 (nI m) := by
        intro i
        by_cases hi : i < 6
        · obtain ⟨m, hm, hq⟩ := inV_ex (u := (goA false (upw w 10 (i + 1)) n).1) ((gU i hi).1.1.2.1)
          exact ⟨m, fun _ => ⟨hm, hq⟩⟩
        · exact ⟨0, fun z => absurd z hi⟩
      exact ⟨fun i => Classical.choose (this i), fun i hi => Classical.choose_spec (this i) hi⟩
    obtain ⟨M, hM⟩ := ex
    have pl : ∀ i, pop6 (M i) ≤ 6 := fun i => pop6_le _
    refine PW.i (w := w) (im := im) (na := na) (od := od) (A := A) (tp := tp) (tl := tl) (fa := fa) 0 (if a2 = 0 then nI (lpf (fun i x => if pop6 (M i) < x then pop6 (M i) else x) 6 6) else nI (lpf (fun i x => if x < pop6 (M i) then pop6 (M i) else x) 0 6)) ?_ ?_
    · intro K g
      refine w_L_span_0 (by omega) ?_
      refine w_X10_span_0 (by omega) (rqL (m := 100) rfl (by omega) (fun z => absurd hv z) fun _ => ?_)
      refine C_copyFrom (w := w) (by omega) (Or.inr ⟨rfl, Or.inl rfl⟩) hC w9 fun I1 L1 r1 f1 l1 => ?_
      have bmn : ∀ i, lpf (fun i x => if pop6 (M i) < x then pop6 (M i) else x) 6 i ≤ 6 := by
        intro i
        induction i with
        | zero => exact Nat.le_refl _
        | succ i ih => rw [lpf]; have := pl i; split <;> omega
      have bmx : ∀ i, lpf (fun i x => if x < pop6 (M i) then pop6 (M i) else x) 0 i ≤ 6 := by
        intro i
        induction i with
        | zero => exact Nat.zero_le _
        | succ i ih => rw [lpf]; have := pl i; split <;> omega
      have key : ∀ I2 L2 a6, RC w I2 L2 → RLw w I2 → RW w I2 L2 9 → (∀ k, (k = 0 ∨ (17 ≤ k ∧ k < 25) ∨ k = 26 ∨ (29 ≤ k ∧ k < 130) ∨ 148 ≤ k) → I2 k = I k) → I2 25 1 = I 25 1 → I2 25 2 = I 25 2 → (∀ k, 17 ≤ k → k < 129 → L2 k = L k) → dd_Rn (d - 1) m_X10_span (28, [.ref 0, .int (nI n), .int a2, .int (nI (lpf (fun i x => if pop6 (M i) < x then pop6 (M i) else x) 6 0)), .int (nI (lpf (fun i x => if x < pop6 (M i) then pop6 (M i) else x) 0 0)), .int (nI (0 + 1)), a6], [], sM Ln I2 L2 c s) (dd_TI Ln c s (fun x1 I1 L1 => dd_RJ Ln c s K (none, .int 0, sM Ln I1 (dd_u L1 163 (vp_updL (L1 163) 0 x1.toInt64)) c s)) (fun E1 I1 L1 => (E1 = 0 ∧ dd_RJ Ln c s K (none, .int 1, sM Ln I1 L1 (c + 1) (s + 6))))) := by
        refine dd_lp (fun i => ∀ I2 L2 a6, RC w I2 L2 → RLw w I2 → RW w I2 L2 9 → (∀ k, (k = 0 ∨ (17 ≤ k ∧ k < 25) ∨ k = 26 ∨ (29 ≤ k ∧ k < 130) ∨ 148 ≤ k) → I2 k = I k) → I2 25 1 = I 25 1 → I2 25 2 = I 25 2 → (∀ k, 17 ≤ k → k < 129 → L2 k = L k) → dd_Rn (d - 1) m_X10_span (28, [.ref 0, .int (nI n), .int a2, .int (nI (lpf (fun i x => if pop6 (M i) < x then pop6 (M i) else x) 6 i)), .int (nI (lpf (fun i x => if x < pop6 (M i) then pop6 (M i) else x) 0 i)), .int (nI (i + 1)), a6], [], sM Ln I2 L2 c s) (dd_TI Ln c s (fun x1 I1 L1 => dd_RJ Ln c s K (none, .int 0, sM Ln I1 (dd_u L1 163 (vp_updL (L1 163) 0 x1.toInt64)) c s)) (fun E1 I1 L1 => (E1 = 0 ∧ dd_RJ Ln c s K (none, .int 1, sM Ln I1 L1 (c + 1) (s + 6)))))) 6 ?_ ?_
        · intro I2 L2 a6 r2 rl2 r9 f2 e1 e2 l2
          refine w_X10_span_28 (by omega) ?_
          rw [li_6, nI_ltI (by omega) (by omega)]
          have hI : ∀ f, INV I0 w im na od A tp tl fa I2 (dd_u L2 163 f) := fun f => h.same (r2.of (fun _ _ _ => rfl) (dd_un (by omega))) f2 e1 e2 (fun k k1 k2 => by rw [dd_un (by omega)]; exact l2 k k1 k2)
          refine ⟨fun _ => ⟨fun z => ?_, fun z => ?_⟩, fun z => absurd (by omega) z⟩
          · rw [if_pos z] at g
            exact dd_qT (dd_qJ (g _ _ c s (cs1r c s) (hI _) (fun _ => outL)))
          · rw [if_neg z] at g
            exact dd_qT (dd_qJ (g _ _ c s (cs1r c s) (hI _) (fun _ => outL)))
        · intro i hi ih I2 L2 a6 r2 rl2 r9 f2 e1 e2 l2
          have b1 := bmn i
          have b2 := bmx i
          have b3 := pl i
          refine w_X10_span_28 (by omega) ?_
          rw [li_6, nI_ltI (by omega) (by omega)]
          refine ⟨fun z => absurd z (by omega), fun _ => ?_⟩
          refine C_beatOn (w := upw w 10 (i + 1)) (by omega) (r2.uSeed (v := i + 1)) (gS i hi).1 ?_ (gS i hi).2.1 (by omega) fun I3 r3 f3 => ?_
          · exact (rl2.of (by rw [dd_un (by decide)]) (by rw [dd_un (by decide)]) (dd_un (by decide))).cong (sameL_upw (by omega) (by omega))
          have e12 : I3 1 12 = nI (M i) := inV_eq (r3.inV (gU i hi).2.2.2.2 ((gU i hi).1.1.2.1)) (hM i hi).2
          rw [e12]
          refine J_bit (by omega) (hM i hi).1 ?_
          have g3 := FRL f3 (by decide)
          have r9' : RW w I3 L2 9 := r9.of (fun j _ _ => by rw [g3 j (by omega), dd_un (by omega)]) rfl
          refine C_copyFrom (w := w) (by omega) (Or.inl ⟨rfl, Or.inl rfl⟩) r9' w9 fun I4 L4 r4 f4 l4 => ?_
          have em : (if nI (pop6 (M i)) < nI (lpf (fun i x => if pop6 (M i) < x then pop6 (M i) else x) 6 i) then nI (pop6 (M i)) else nI (lpf (fun i x => if pop6 (M i) < x then pop6 (M i) else x) 6 i)) = nI (lpf (fun i x => if pop6 (M i) < x then pop6 (M i) else x) 6 (i + 1)) := by
            rw [lpf]
            by_cases q : pop6 (M i) < lpf (fun i x => if pop6 (M i) < x then pop6 (M i) else x) 6 i
            · rw [if_pos q, if_pos (nI_lt q (by omega))]
            · rw [if_neg q, if_neg (fun z => q (by rw [nI_ltI (by omega) (by omega)] at z; exact z))]
          have ex : (if nI (lpf (fun i x => if x < pop6 (M i) then pop6 (M i) else x) 0 i) < nI (pop6 (M i)) then nI (pop6 (M i)) else nI (lpf (fun i x => if x < pop6 (M i) then pop6 (M i) else x) 0 i)) = nI (lpf (fun i x => if x < pop6 (M i) then pop6 (M i) else x) 0 (i + 1)) := by
            rw [lpf]
            by_cases q : lpf (fun i x => if x < pop6 (M i) then pop6 (M i) else x) 0 i < pop6 (M i)
            · rw [if_pos q, if_pos (nI_lt q (by omega))]
            · rw [if_neg q, if_neg (fun z => q (by rw [nI_ltI (by omega) (by omega)] at z; exact z))]
          rw [em, ex, nI_1]
          have g4 : ∀ k, (k = 0 ∨ (9 ≤ k ∧ k < 25) ∨ (26 ≤ k ∧ k < 133) ∨ 136 ≤ k) → I4 k = I2 k := fun k hk => by
            rw [f4 k (by omega), g3 k (by omega), dd_un (by omega)]
          have x1 : I4 25 1 = I2 25 1 := by rw [f4 25 (by omega), f3.2 1 (by decide), dd_un (by decide)]
          have x2 : I4 25 2 = I2 25 2 := by rw [f4 25 (by omega), f3.2 2 (by decide), dd_un (by decide)]
          refine ih I4 L4 _ r4 (rl2.of x1 x2 (g4 26 (by omega))) (r9.of (fun j _ _ => g4 j (by omega)) (l4 9 (by omega))) (fun k hk => by rw [g4 k (by omega)]; exact f2 k hk) (x1.trans e1) (x2.trans e2) (fun k k1 k2 => by rw [l4 k (by omega)]; exact l2 k k1 k2)
      refine key I1 L1 _ (hC.of (fun j _ _ => f1 j (by omega)) (l1 1 (by omega))) (h.2.2.2.1.of (by rw [f1 25 (by omega)]) (by rw [f1 25 (by omega)]) (f1 26 (by omega))) r1 (fun k hk => f1 k (by omega)) (by rw [f1 25 (by omega)]) (by rw [f1 25 (by omega)]) (fun k k1 k2 => l1 k (by omega))
    · intro I1 L1 c1 s1 h1 K g
      have hR := h1.2.1
      refine w_X11_span_0 (by omega) (rqN (m := 100) rfl (by omega) (fun z => absurd hv z) fun _ => ?_)
      have hR1 : RM w (dd_u I1 148 (upd (I1 148) 0 0)) := hR.of (dd_un (by decide))
      have fj := FM.th I1 0
      have t0 : dd_u I1 148 (upd (I1 148) 0 0) 148 0 = 0 := thr0
      generalize dd_u I1 148 (upd (I1 148) 0 0) = J at *
      refine M_keepsAll (w := w) (by omega) hR1 fun f hf => ?_
      have bmn : ∀ i, lpf (fun i x => if pop6 (M i) < x then pop6 (M i) else x) 6 i ≤ 6 := by
        intro i
        induction i with
        | zero => exact Nat.le_refl _
        | succ i ih => rw [lpf]; have := pl i; split <;> omega
      have bmx : ∀ i, lpf (fun i x => if x < pop6 (M i) then pop6 (M i) else x) 0 i ≤ 6 := by
        intro i
        induction i with
        | zero => exact Nat.zero_le _
        | succ i ih => rw [lpf]; have := pl i; split <;> omega
      have key : ∀ I2 a5, RM w I2 → FR 148 [149, 152, 156] [18] J I2 → (∀ j, j < 522 → I2 152 j = nI (w j)) → dd_Rn d m_X11_span (28, [.ref 148, .int (nI n), .int a2, .int (if 0 = 0 then -1 else if a2 = 0 then nI (lpf (fun i x => if pop6 (M i) < x then pop6 (M i) else x) 6 0) else nI (lpf (fun i x => if x < pop6 (M i) then pop6 (M i) else x) 0 0)), .int (nI (0 + 1)), a5], [], sM Ln I2 L1 c1 s1) (dd_RI Ln c1 s1 K) := by
        refine dd_lp (fun i => ∀ I2 a5, RM w I2 → FR 148 [149, 152, 156] [18] J I2 → (∀ j, j < 522 → I2 152 j = nI (w j)) → dd_Rn d m_X11_span (28, [.ref 148, .int (nI n), .int a2, .int (if i = 0 then -1 else if a2 = 0 then nI (lpf (fun i x => if pop6 (M i) < x then pop6 (M i) else x) 6 i) else nI (lpf (fun i x => if x < pop6 (M i) then pop6 (M i) else x) 0 i)), .int (nI (i + 1)), a5], [], sM Ln I2 L1 c1 s1) (dd_RI Ln c1 s1 K)) 6 ?_ ?_
        · intro I2 a5 r2 f2 k2
          refine w_X11_span_28 (by omega) ?_
          rw [li_6, nI_ltI (by omega) (by omega), if_neg (show ¬ (6 : Nat) = 0 by decide)]
          exact ⟨fun _ => mqJ r2 (fj.trans (FM.b f2)) (by rw [f2.2 0 (by decide)]; exact t0) rfl g, fun z => absurd (by omega) z⟩
        · intro i hi ih I2 a5 r2 f2 k2
          have b1 := bmn i
          have b2 := bmx i
          have b3 := pl i
          refine w_X11_span_28 (by omega) ?_
          rw [li_6, nI_ltI (by omega) (by omega)]
          refine ⟨fun z => absurd z (by omega), fun _ => ?_⟩
          refine M_goesOn (cm := false) (w := upw w 10 (i + 1)) (by omega) (RM.set (nu r2 10 (i + 1))) (gS i hi).1 (by omega) fun I3 r3 f3 => ?_
          refine M_inOnes (w := (goA false (upw w 10 (i + 1)) n).1) (by omega) r3 (gU i hi).1 fun v hv2 => ?_
          have ev : v = nI (M i) := inV_eq hv2 (hM i hi).2
          rw [ev]
          refine J_bit (by omega) (hM i hi).1 ?_
          have e152 : ∀ j, j < 522 → I3 152 j = nI (w j) := fun j hj => by
            rw [f3.1 152 (by decide) (by decide), dd_un (by decide)]; exact k2 j hj
          refine M_bringsBack (w := (goA false (upw w 10 (i + 1)) n).1) (w0 := w) (by omega) r3 e152 (fun j hj => by rw [sU i hi j (by omega), upw_ne (by omega)]) fun f4 r4 => ?_
          have F : FR 148 [149, 152, 156] [18] J (dd_u I3 149 f4) := ((f2.u (by decide) (by decide)).trans (f3.mono (by decide) (by decide))).u (by decide) (by decide)
          have k4 : ∀ j, j < 522 → dd_u I3 149 f4 152 j = nI (w j) := fun j hj => by rw [dd_un (by decide)]; exact e152 j hj
          have fin := ih _ (.int (nI (pop6 (M i)))) r4 F k4
          rw [if_neg (Nat.succ_ne_zero i), lpf, lpf] at fin
          rw [nI_1]
          by_cases i0 : i = 0
          · subst i0
            rw [if_pos rfl]
            refine ⟨fun z => absurd z (by decide), fun _ => ?_⟩
            have x1 : (if pop6 (M 0) < lpf (fun i x => if pop6 (M i) < x then pop6 (M i) else x) 6 0 then pop6 (M 0) else lpf (fun i x => if pop6 (M i) < x then pop6 (M i) else x) 6 0) = pop6 (M 0) := by
              have : lpf (fun i x => if pop6 (M i) < x then pop6 (M i) else x) 6 0 = 6 := rfl
              rw [this]; split <;> omega
            have x2 : (if lpf (fun i x => if x < pop6 (M i) then pop6 (M i) else x) 0 0 < pop6 (M 0) then pop6 (M 0) else lpf (fun i x => if x < pop6 (M i) then pop6 (M i) else x) 0 0) = pop6 (M 0) := by
              have : lpf (fun i x => if x < pop6 (M i) then pop6 (M i) else x) 0 0 = 0 := rfl
              rw [this]; split <;> omega
            rw [x1, x2, ite_self] at fin
            exact fin
          · rw [if_neg i0]
            have pos : (0 : Int32) ≤ (if a2 = 0 then nI (lpf (fun i x => if pop6 (M i) < x then pop6 (M i) else x) 6 i) else nI (lpf (fun i x => if x < pop6 (M i) then pop6 (M i) else x) 0 i)) := by
              split
              · exact nI_pos' (by omega)
              · exact nI_pos' (by omega)
            refine ⟨fun _ => ⟨fun z => ?_, fun z => ?_⟩, fun z => absurd pos z⟩
            · rw [if_pos z] at fin ⊢
              by_cases q : pop6 (M i) < lpf (fun i x => if pop6 (M i) < x then pop6 (M i) else x) 6 i
              · rw [if_pos q] at fin
                rw [if_pos (nI_lt q (by omega))]
                exact fin
              · rw [if_neg q] at fin
                rw [if_neg (fun z => q (by rw [nI_ltI (by omega) (by omega)] at z; exact z))]
                exact fin
            · rw [if_neg z] at fin ⊢
              by_cases q : lpf (fun i x => if x < pop6 (M i) then pop6 (M i) else x) 0 i < pop6 (M i)
              · rw [if_pos q] at fin
                rw [if_pos (nI_lt q (by omega))]
                exact fin
              · rw [if_neg q] at fin
                rw [if_neg (fun z => q (by rw [nI_ltI (by omega) (by omega)] at z; exact z))]
                exact fin
      have := key (dd_u J 152 f) .null (hR1.of (dd_un (by decide))) ((FR.refl J).u (by decide) (by decide)) (fun j hj => by rw [dd_us]; exact hf j hj)
      rw [if_pos rfl] at this
      exact this
  · refine PW.q h _ 0 (WR1 (e1 := 0) (o := some 0) (w_L_span_0 (by omega)) (Or.inr rfl) ?_) ?_
    · intro K T g1 g2
      exact w_X10_span_0 (by omega) (rqL (m := 100) rfl (by omega) (fun _ => dd_qX (g2 0 rfl)) fun z => absurd z hv)
    · intro I1 L1 c1 s1 h1 K g
      have hR := h1.2.1
      refine w_X11_span_0 (by omega) ?_
      simp only [dd_u_u, upd_uu]
      exact rqN (m := 100) rfl (by omega) (fun _ => mqT hR (by decide) g) fun z => absurd z hv
