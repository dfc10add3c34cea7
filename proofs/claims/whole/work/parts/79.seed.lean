/-! fault, seed -/
theorem A_fault {d Ln c s : Nat} {I0 I : Nat → Nat → Int32} {L : Nat → Nat → Int64} {w : Nat → Nat} {im : Option (Nat → Nat)} {na od : Nat} {A : Nat → Nat → Nat} {tp : Nat → Nat} {tl : Nat} {fa : Option Nat} (hd : 60 ≤ d) (h : INV I0 w im na od A tp tl fa I L) : PIw d m_X10_fault [.ref 0] m_X11_fault [.ref 148] I0 Ln c s I L := by
  refine PIw.q h (oI fa) ?_ ?_
  · intro K g
    refine w_X10_fault_0 (by omega) ?_
    rw [h.2.2.2.2.2.2.2.1.2]
    exact dd_qi (g I L (FC.refl I L))
  · intro I1 L1 h1 K g
    refine w_X11_fault_0 (by omega) ?_
    exact mqR h1.2.1 h1.2.2.2.2.2.2.2.1.1 g
theorem i32_of (a : Int32) : ∃ m, m < 2 ^ 32 ∧ a = nI m := by
  refine ⟨a.toBitVec.toNat, a.toBitVec.isLt, ?_⟩
  apply Int32.toBitVec_inj.mp
  show a.toBitVec = BitVec.ofNat 32 a.toBitVec.toNat
  rw [BitVec.ofNat_toNat, BitVec.setWidth_eq]
theorem sameL.symm {a b : Nat → Nat} (h : sameL a b) : sameL b a := ⟨h.1.symm, fun j hj => (h.2 j hj).symm⟩
theorem GOOD_up {w : Nat → Nat} (h : GOOD w) {J v : Nat} (hO : OKW (upw w J v)) (h1 : J ≠ 1) (h4 : J ≠ 4) (h9 : J ≠ 9) (ht : J < 11 ∨ 75 ≤ J) (hj : J < 222) (hb : ∀ b, J ≠ 187 + 5 * b ∧ J ≠ 187 + 5 * b + 3) : GOOD (upw w J v) := by
  obtain ⟨g1, g2, ⟨g3, g4⟩, g5, g6⟩ := h
  have w4 := g1.1.2.2.2.1
  have w1 := g1.1.2.1
  refine ⟨hO, inbs_up g2 h1 h4 hb, ⟨?_, ?_⟩, ?_, ?_⟩
  · rw [upw_ne (show 4 ≠ J by omega), upw_ne (by omega)]
    exact g3
  · intro b hb'
    rw [upw_ne (by omega)] at hb'
    have q := hb b
    have b1 := (g1.2.2.2.1 b (by omega)).2.1
    rw [upw_ne (show 187 + 5 * b ≠ J by omega), upw_ne (by omega)]
    exact g4 b hb'
  · intro a ha
    rw [upw_ne (by omega)] at ha
    rw [upw_ne (by omega), upw_ne (by omega), upw_ne (by omega), upw_ne (by omega), upw_ne (by omega)]
    exact g5 a ha
  · intro b hb' h6
    have q := hb b
    rw [upw_ne (by omega)] at hb'
    rw [upw_ne (by omega)]
    exact g6 b hb' h6
theorem INV.new {I0 : Nat → Nat → Int32} {w w' : Nat → Nat} {im : Option (Nat → Nat)} {na od : Nat} {A : Nat → Nat → Nat} {tp : Nat → Nat} {tl : Nat} {fa : Option Nat} {I I' : Nat → Nat → Int32} {L L' : Nat → Nat → Int64} (h : INV I0 w im na od A tp tl fa I L) (g : GOOD w') (r : RM w' I') (rc : RC w' I' L') (sl : sameL w w') (f : ∀ k, ((17 ≤ k ∧ k < 25) ∨ k = 0 ∨ k = 25 ∨ k = 26 ∨ (29 ≤ k ∧ k < 130) ∨ k = 150 ∨ k = 153 ∨ k = 154 ∨ 163 ≤ k) → I' k = I k) (f6 : I' 148 6 = I 148 6) (f7 : I' 148 7 = I 148 7) (f9 : I' 148 9 = I 148 9) (f14 : I' 148 14 = I 148 14) (fL : ∀ k, 17 ≤ k → k < 129 → L' k = L k) : INV I0 w' im na od A tp tl fa I' L' := by
  obtain ⟨h1, h2, h3, h4, ⟨i1, i2, i3⟩, ⟨a1, a2, a3, a4, a5, a6⟩, ⟨t1, t2, t3, t4, t5⟩, ⟨q1, q2⟩, h9⟩ := h
  refine ⟨g, r, rc, ?_, ⟨?_, ?_, ?_⟩, ⟨a1, a2, ?_, ?_, ?_, ?_⟩, ⟨t1, t2, ?_, ?_, ?_⟩, ⟨?_, ?_⟩, ?_⟩
  · exact (h4.of (by rw [f 25 (by omega)]) (by rw [f 25 (by omega)]) (f 26 (by omega))).cong sl
  · rw [f6]; exact i1
  · rw [f 0 (by omega)]; exact i2
  · intro wi hw
    obtain ⟨j1, j2, j3, j4⟩ := i3 wi hw
    refine ⟨j1, fun j hj => by rw [f 150 (by omega)]; exact j2 j hj, j3.of (fun j _ _ => f j (by omega)) (fL 17 (by omega) (by omega)), ?_⟩
    unfold RLk
    rw [f 29 (by omega), f (29 + 1) (by omega)]
    exact j4
  · rw [f7]; exact a3
  · rw [f 31 (by omega)]; exact a4
  · rw [f 31 (by omega)]; exact a5
  · intro i hi
    obtain ⟨j1, j2, j3, j4⟩ := a6 i hi
    exact ⟨j1, sl.symm.trans j2, fun j hj => by rw [f 153 (by omega)]; exact j3 j hj, j4.of (fun j _ _ => f j (by omega)) (fL _ (by omega) (by omega))⟩
  · rw [f9]; exact t3
  · rw [f 0 (by omega)]; exact t4
  · intro j hj
    rw [f 129 (by omega), f 154 (by omega)]
    exact t5 j hj
  · rw [f14]; exact q1
  · rw [f 0 (by omega)]; exact q2
  · intro k hk
    rw [f k (by omega)]
    exact h9 k hk
theorem A_seed {d Ln c s : Nat} {I0 I : Nat → Nat → Int32} {L : Nat → Nat → Int64} {w : Nat → Nat} {im : Option (Nat → Nat)} {na od : Nat} {A : Nat → Nat → Nat} {tp : Nat → Nat} {tl : Nat} {fa : Option Nat} (hd : 60 ≤ d) (h : INV I0 w im na od A tp tl fa I L) (a : Int32) : PIw d m_X10_seed [.ref 0, .int a] m_X11_seed [.ref 148, .int a] I0 Ln c s I L := by
  intro G g
  obtain ⟨m, hm, rfl⟩ := i32_of a
  have hC := h.2.2.1
  have hR := h.2.1
  refine w_X10_seed_0 (by omega) ?_
  rw [hC.seed]
  refine dd_qi ⟨fun k hk => by rw [dd_un (by omega)]; exact h.2.2.2.2.2.2.2.2 k hk, ?_⟩
  refine w_X11_seed_0 (by omega) ?_
  have e149 : dd_u I 1 (upd (I 1) 18 (nI m)) 149 = I 149 := dd_un (by decide)
  have e148 : dd_u I 1 (upd (I 1) 18 (nI m)) 148 = I 148 := dd_un (by decide)
  rw [e149, e148, hR.g (by omega)]
  refine dd_qi ?_
  refine g (nI (w 10)) _ _ ⟨upw w 10 m, im, na, od, A, tp, tl, fa, ?_⟩
  have oU : OKW (upw w 10 m) := okW_s h.1.1 (by omega) (by omega) (by omega)
  refine h.new (GOOD_up h.1 oU (by omega) (by omega) (by omega) (by omega) (by omega) (fun b => by omega)) (RM.set (nu hR 10 m)) ?_ (sameL_upw (by omega) (by omega)) ?_ ?_ ?_ ?_ ?_ (fun _ _ _ => rfl)
  · refine (hC.uSeed (v := m)).of (fun j h1 h2 => ?_) rfl
    rw [dd_un (by omega), dd_un (by omega)]
  · intro k hk
    rw [dd_un (by omega), dd_un (by omega), dd_un (by omega)]
  · rw [dd_un (by decide), dd_us, pk_un (by decide)]
  · rw [dd_un (by decide), dd_us, pk_un (by decide)]
  · rw [dd_un (by decide), dd_us, pk_un (by decide)]
  · rw [dd_un (by decide), dd_us, pk_un (by decide)]
