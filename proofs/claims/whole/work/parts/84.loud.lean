/-! loud -/
theorem acC.of {na od : Nat} {A : Nat → Nat → Nat} {I I' : Nat → Nat → Int32} {L L' : Nat → Nat → Int64} (h : acC na od A I L) (hI : ∀ k, 31 ≤ k → k < 129 → I' k = I k) (hL : ∀ k, 33 ≤ k → k < 129 → L' k = L k) : acC na od A I' L' := by
  obtain ⟨h1, h2, h3⟩ := h
  refine ⟨by rw [hI 31 (by omega) (by omega)]; exact h1, by rw [hI 31 (by omega) (by omega)]; exact h2, fun i hi => ?_⟩
  exact (h3 i hi).of (fun j _ _ => hI j (by omega) (by omega)) (hL _ (by omega) (by omega))
theorem A_loud {d Ln c s : Nat} {I0 I : Nat → Nat → Int32} {L : Nat → Nat → Int64} {w : Nat → Nat} {im : Option (Nat → Nat)} {na od : Nat} {A : Nat → Nat → Nat} {tp : Nat → Nat} {tl : Nat} {fa : Option Nat} (hd : 60 ≤ d) (h : INV I0 w im na od A tp tl fa I L) (a : Int32) : PW d m_L_loud [.ref 0, .int a, .ref 163] m_X11_loud [.ref 148, .int a] I0 Ln c s I L := by
  have hO := h.1.1
  have hC := h.2.2.1
  have hR := h.2.1
  have w9 := hO.1.2.2.2.2.2.2.2.2.1
  obtain ⟨a1, a2, a3, a4, a5, a6⟩ := h.2.2.2.2.2.1
  by_cases hv : vld a 16
  · obtain ⟨n, hn, rfl⟩ := vld_i (by omega) hv
    intro G g
    refine w_L_loud_0 (by omega) ?_
    refine w_X10_loud_0 (by omega) (rqL (m := 15) rfl (by omega) (fun z => absurd hv z) fun _ => ?_)
    refine C_remember (w := w) (na := na) (od := od) (A := A) (by omega) hC w9 a1 a2 ⟨a4, a5, fun i hi => (a6 i hi).2.2.2⟩ fun I1 L1 c1 r1 f1 l1 => ?_
    rw [r1.loud]
    refine dd_qT (dd_qJ ⟨fun k hk => by rw [dd_un (by omega), f1 k (by omega) (by omega)]; exact h.2.2.2.2.2.2.2.2 k hk, ?_⟩)
    refine w_X11_loud_0 (by omega) (rqN (m := 15) rfl (by omega) (fun z => absurd hv z) fun _ => ?_)
    refine w_X11_isNow_0 (by omega) ?_
    have e149 : dd_u (dd_u I1 1 (upd (I1 1) 14 (nI n))) 148 (upd (dd_u I1 1 (upd (I1 1) 14 (nI n)) 148) 0 0) 149 = I 149 := by
      rw [dd_un (by decide), dd_un (by decide), f1 149 (by omega) (by omega)]
    have e153 : dd_u (dd_u I1 1 (upd (I1 1) 14 (nI n))) 148 (upd (dd_u I1 1 (upd (I1 1) 14 (nI n)) 148) 0 0) 153 = I 153 := by
      rw [dd_un (by decide), dd_un (by decide), f1 153 (by omega) (by omega)]
    have e148 : ∀ j, j ≠ 0 → dd_u (dd_u I1 1 (upd (I1 1) 14 (nI n))) 148 (upd (dd_u I1 1 (upd (I1 1) 14 (nI n)) 148) 0 0) 148 j = I 148 j := by
      intro j hj
      rw [dd_us, pk_un hj, dd_un (by decide), f1 148 (by omega) (by omega)]
    have e0 : dd_u (dd_u I1 1 (upd (I1 1) 14 (nI n))) 148 (upd (dd_u I1 1 (upd (I1 1) 14 (nI n)) 148) 0 0) 148 0 = 0 := by
      rw [dd_us, pk_us]
    have ek : ∀ k, k ≠ 148 → k ≠ 1 → dd_u (dd_u I1 1 (upd (I1 1) 14 (nI n))) 148 (upd (dd_u I1 1 (upd (I1 1) 14 (nI n)) 148) 0 0) k = I1 k := fun k h8 h1 => by
      rw [dd_un h8, dd_un h1]
    have e1 : dd_u (dd_u I1 1 (upd (I1 1) 14 (nI n))) 148 (upd (dd_u I1 1 (upd (I1 1) 14 (nI n)) 148) 0 0) 1 = upd (I1 1) 14 (nI n) := by
      rw [dd_un (by decide), dd_us]
    generalize dd_u (dd_u I1 1 (upd (I1 1) 14 (nI n))) 148 (upd (dd_u I1 1 (upd (I1 1) 14 (nI n)) 148) 0 0) = J at *
    refine M_remembers (w := w) (na := na) (A := A) (by omega) (hR.of e149) a1 ⟨by rw [e148 7 (by decide)]; exact a3, fun i hi j hj => by rw [e153]; exact (a6 i hi).2.2.1 j hj⟩ fun I3 r3 m3 f3 => ?_
    refine ⟨by decide, by decide, ?_⟩
    rw [show tn 5 = 5 from by decide, r3.g (by omega)]
    refine dd_qi (dd_qi ?_)
    have k3 : ∀ k, k ≠ 148 → k ≠ 1 → k ≠ 149 → k ≠ 153 → dd_u I3 149 (upd (I3 149) 5 (nI n)) k = I1 k := fun k h8 h1 h9 h3 => by
      rw [dd_un h9, f3.1 k (by simp only [List.mem_cons, List.not_mem_nil, or_false]; exact h3) h8, ek k h8 h1]
    refine g 0 (nI (w 5)) _ _ c s (cs1r c s) ?_ (fun _ => outL) ⟨upw w 5 n, im, acN na, acO na od, acA na A w, tp, tl, fa, ?_⟩
    · rw [dd_un (by decide), f3.2 0 (by decide)]; exact e0
    have oU : OKW (upw w 5 n) := okW_s hO (by omega) (by omega) (by omega)
    refine h.act (GOOD_up h.1 oU (by omega) (by omega) (by omega) (by omega) (by omega) (fun b => by omega)) (RM.set (nu r3 5 n)) ?_ (sameL_upw (by omega) (by omega)) ?_ ?_ ?_ ?_ ?_ ?_ ?_ ?_ ?_
    · refine (r1.uLoud (v := n)).of (fun j h1 h2 => ?_) ?_
      · by_cases q : j = 1
        · subst q
          rw [dd_un (by decide), f3.1 1 (by decide) (by decide), e1, dd_us]
        · rw [k3 j (by omega) q (by omega) (by omega), dd_un q]
      · rw [dd_un (by decide)]
    · exact c1.of (fun k h1 h2 => k3 k (by omega) (by omega) (by omega) (by omega)) (fun k h1 h2 => dd_un (by omega))
    · refine ⟨?_, fun i hi j hj => ?_⟩
      · rw [dd_un (by decide)]; exact m3.1
      · rw [dd_un (by decide)]; exact m3.2 i hi j hj
    · intro k hk
      rw [k3 k (by omega) (by omega) (by omega) (by omega)]
      exact f1 k (by omega) (by omega)
    · rw [k3 25 (by omega) (by omega) (by omega) (by omega), f1 25 (by omega) (by omega)]
    · rw [k3 25 (by omega) (by omega) (by omega) (by omega), f1 25 (by omega) (by omega)]
    · rw [dd_un (by decide), f3.2 6 (by decide), e148 6 (by decide)]
    · rw [dd_un (by decide), f3.2 9 (by decide), e148 9 (by decide)]
    · rw [dd_un (by decide), f3.2 14 (by decide), e148 14 (by decide)]
    · rw [dd_un (by decide)]; exact l1 17 (by omega)
  · refine PW.q h _ 0 (WR1 (e1 := 0) (o := some 0) (w_L_loud_0 (by omega)) (Or.inr rfl) ?_) ?_
    · intro K T g1 g2
      exact w_X10_loud_0 (by omega) (rqL (m := 15) rfl (by omega) (fun _ => dd_qX (g2 0 rfl)) fun z => absurd z hv)
    · intro I1 L1 c1 s1 h1 K g
      have hR := h1.2.1
      refine w_X11_loud_0 (by omega) ?_
      simp only [dd_u_u, upd_uu]
      exact rqN (m := 15) rfl (by omega) (fun _ => mqT hR (by decide) g) fun z => absurd z hv
