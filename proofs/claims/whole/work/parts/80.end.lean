/-! end -/
theorem INV.tape {I0 : Nat → Nat → Int32} {w : Nat → Nat} {im : Option (Nat → Nat)} {na od : Nat} {A : Nat → Nat → Nat} {tp tp' : Nat → Nat} {tl tl' : Nat} {fa : Option Nat} {I I' : Nat → Nat → Int32} {L : Nat → Nat → Int64} (h : INV I0 w im na od A tp tl fa I L) (hl : tl' ≤ 400) (ht : ∀ j, tp' j < 256) (f : ∀ k, k ≠ 0 → k ≠ 148 → k ≠ 129 → k ≠ 154 → k ≠ 155 → I' k = I k) (c6 : I' 0 6 = I 0 6) (c9 : I' 0 9 = nI tl') (c10 : I' 0 10 = I 0 10) (f6 : I' 148 6 = I 148 6) (f7 : I' 148 7 = I 148 7) (f9 : I' 148 9 = nI tl') (f14 : I' 148 14 = I 148 14) (ft : ∀ j, j < 400 → I' 129 j = nI (tp' j) ∧ I' 154 j = byt (tp' j)) : INV I0 w im na od A tp' tl' fa I' L := by
  obtain ⟨h1, h2, h3, h4, ⟨i1, i2, i3⟩, ⟨a1, a2, a3, a4, a5, a6⟩, ⟨t1, t2, t3, t4, t5⟩, ⟨q1, q2⟩, h9⟩ := h
  refine ⟨h1, h2.of (f 149 (by omega) (by omega) (by omega) (by omega) (by omega)), h3.of (fun j _ _ => f j (by omega) (by omega) (by omega) (by omega) (by omega)) rfl, ?_, ⟨?_, ?_, ?_⟩, ⟨a1, a2, ?_, ?_, ?_, ?_⟩, ⟨hl, ht, f9, c9, ft⟩, ⟨?_, ?_⟩, ?_⟩
  · exact h4.of (by rw [f 25 (by omega) (by omega) (by omega) (by omega) (by omega)]) (by rw [f 25 (by omega) (by omega) (by omega) (by omega) (by omega)]) (f 26 (by omega) (by omega) (by omega) (by omega) (by omega))
  · rw [f6]; exact i1
  · rw [c6]; exact i2
  · intro wi hw
    obtain ⟨j1, j2, j3, j4⟩ := i3 wi hw
    refine ⟨j1, fun j hj => by rw [f 150 (by omega) (by omega) (by omega) (by omega) (by omega)]; exact j2 j hj, j3.of (fun j _ _ => f j (by omega) (by omega) (by omega) (by omega) (by omega)) rfl, ?_⟩
    unfold RLk
    rw [f 29 (by omega) (by omega) (by omega) (by omega) (by omega), f (29 + 1) (by omega) (by omega) (by omega) (by omega) (by omega)]
    exact j4
  · rw [f7]; exact a3
  · rw [f 31 (by omega) (by omega) (by omega) (by omega) (by omega)]; exact a4
  · rw [f 31 (by omega) (by omega) (by omega) (by omega) (by omega)]; exact a5
  · intro i hi
    obtain ⟨j1, j2, j3, j4⟩ := a6 i hi
    exact ⟨j1, j2, fun j hj => by rw [f 153 (by omega) (by omega) (by omega) (by omega) (by omega)]; exact j3 j hj, j4.of (fun j _ _ => f j (by omega) (by omega) (by omega) (by omega) (by omega)) rfl⟩
  · rw [f14]; exact q1
  · rw [c10]; exact q2
  · intro k hk
    rw [f k (by omega) (by omega) (by omega) (by omega) (by omega)]
    exact h9 k hk
theorem A_end {d Ln c s : Nat} {I0 I : Nat → Nat → Int32} {L : Nat → Nat → Int64} {w : Nat → Nat} {im : Option (Nat → Nat)} {na od : Nat} {A : Nat → Nat → Nat} {tp : Nat → Nat} {tl : Nat} {fa : Option Nat} (hd : 60 ≤ d) (h : INV I0 w im na od A tp tl fa I L) (a : Int32) : PIw d m_X10_end [.ref 0, .int a] m_X11_end [.ref 148, .int a] I0 Ln c s I L := by
  obtain ⟨t1, t2, t3, t4, t5⟩ := h.2.2.2.2.2.2.1
  by_cases hv : vld a (tl + 1)
  · obtain ⟨n, hn, rfl⟩ := vld_i (by omega) hv
    intro G g
    refine w_X10_end_0 (by omega) (rqL (m := tl) t4 (by omega) (fun z => absurd hv z) fun _ => dd_qi ⟨fun k hk => by rw [dd_un (by omega)]; exact h.2.2.2.2.2.2.2.2 k hk, ?_⟩)
    have e148 : dd_u I 0 (upd (I 0) 9 (nI n)) 148 = I 148 := dd_un (by decide)
    refine w_X11_end_0 (by omega) ?_
    rw [e148]
    refine rqL (m := tl) t3 (by omega) (fun z => absurd hv z) fun _ => dd_qi ?_
    rw [dd_u_u]
    refine g 1 _ _ ⟨w, im, na, od, A, tp, n, fa, h.tape (by omega) t2 ?_ ?_ ?_ ?_ ?_ ?_ ?_ ?_ ?_⟩
    · intro k k0 k8 _ _ _
      rw [dd_un k8, dd_un k0]
    · rw [dd_un (by decide), dd_us, pk_un (by decide)]
    · rw [dd_un (by decide), dd_us, pk_us]
    · rw [dd_un (by decide), dd_us, pk_un (by decide)]
    · rw [dd_us, pk_un (by decide), pk_un (by decide)]
    · rw [dd_us, pk_un (by decide), pk_un (by decide)]
    · rw [dd_us, pk_us]
    · rw [dd_us, pk_un (by decide), pk_un (by decide)]
    · intro j hj
      rw [dd_un (by decide), dd_un (by decide), dd_un (by decide), dd_un (by decide)]
      exact t5 j hj
  · refine PIw.q h 0 ?_ ?_
    · intro K g
      exact w_X10_end_0 (by omega) (rqL (m := tl) t4 (by omega) (fun _ => dd_qi (g I L (FC.refl I L))) fun z => absurd z hv)
    · intro I1 L1 h1 K g
      have t3' := h1.2.2.2.2.2.2.1.2.2.1
      exact w_X11_end_0 (by omega) (rqL (m := tl) t3' (by omega) (fun _ => mqR h1.2.1 rfl g) fun z => absurd z hv)
